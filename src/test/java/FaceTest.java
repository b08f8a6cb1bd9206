import java.lang.reflect.Constructor;
import java.lang.reflect.Field;
import java.lang.reflect.Method;
import java.lang.reflect.Modifier;
import java.util.Arrays;
import java.util.TreeSet;

/** The class has the document's public face and nothing beside it that is not private. */
public final class FaceTest {
    private static final String[] FACE = {
        "int write(int, int) IndexOutOfBoundsException IllegalArgumentException IllegalStateException",
        "int read(int) IndexOutOfBoundsException IllegalStateException",
        "int destage(int) IndexOutOfBoundsException IllegalStateException",
        "int destageAll() IllegalStateException",
        "int pass(int) IllegalArgumentException",
        "int setLimit(int) IllegalArgumentException",
        "int power(boolean)",
        "int moveStick(boolean) IllegalStateException",
        "int appendText(int) IllegalArgumentException IllegalStateException",
        "int clearText()",
        "int errorPosition()",
        "int runText() IllegalStateException",
        "int undo() IllegalStateException",
        "boolean isOn()",
        "boolean isIn()",
        "int charge()",
        "int line(int, int, int) IndexOutOfBoundsException IllegalArgumentException",
        "int dirtyOf(int) IndexOutOfBoundsException",
        "int dirty()",
        "int used()",
        "int onDisk(int) IndexOutOfBoundsException",
        "boolean isFound(int) IndexOutOfBoundsException",
        "int missing()",
        "int ifWritten(int) IndexOutOfBoundsException",
        "int ifDestaged()",
        "int ticksToLoss()",
        "int count(int) IllegalArgumentException",
        "float blocksPerStripe()",
        "int savedStates()",
        "int textLength()",
        "field int NONE",
        "constructor()",
    };

    public static void main(String[] args) {
        Class<?> face = GatheringCache.class;
        TreeSet<String> names = new TreeSet<>();
        TreeSet<String> found = new TreeSet<>();
        boolean good = Modifier.isPublic(face.getModifiers()) && Modifier.isFinal(face.getModifiers());
        for (Method m : face.getDeclaredMethods()) {
            if (!Modifier.isPrivate(m.getModifiers())) {
                found.add(told(m));
                names.add(m.getName());
            }
        }
        for (Method m : face.getDeclaredMethods()) {
            if (Modifier.isPrivate(m.getModifiers()) && names.contains(m.getName())) {
                good = false;
                System.out.println("a private method bears a public one's name: " + m);
            }
        }
        for (Field f : face.getDeclaredFields()) {
            if (!Modifier.isPrivate(f.getModifiers())) {
                found.add("field " + f.getType().getSimpleName() + " " + f.getName());
            }
        }
        for (Constructor<?> c : face.getDeclaredConstructors()) {
            found.add("constructor" + parameters(c.getParameterTypes()));
        }
        TreeSet<String> due = new TreeSet<>(Arrays.asList(FACE));
        if (!good || !found.equals(due)) {
            System.out.println("the face is " + found + ", due is " + due);
            System.exit(1);
        }
        System.out.println("the face is as due");
    }

    private static String told(Method m) {
        StringBuilder s = new StringBuilder();
        s.append(m.getReturnType().getSimpleName()).append(' ').append(m.getName());
        s.append(parameters(m.getParameterTypes()));
        for (Class<?> thrown : m.getExceptionTypes()) {
            s.append(' ').append(thrown.getSimpleName());
        }
        return s.toString();
    }

    private static String parameters(Class<?>[] types) {
        StringBuilder s = new StringBuilder("(");
        for (int i = 0; i < types.length; i++) {
            s.append(i == 0 ? "" : ", ").append(types[i].getSimpleName());
        }
        return s.append(')').toString();
    }
}
