import java.lang.reflect.Constructor;
import java.lang.reflect.Field;
import java.lang.reflect.Method;
import java.lang.reflect.Modifier;
import java.util.Arrays;
import java.util.TreeSet;

/** The public face is the document's, and nothing else can be seen from outside. */
public final class FaceTest {
    private static boolean isSeen(int modifiers) {
        return !Modifier.isPrivate(modifiers);
    }

    public static void main(String[] args) {
        TreeSet<String> seen = new TreeSet<>();
        for (Field field : ConsHouse.class.getDeclaredFields()) {
            if (isSeen(field.getModifiers())) {
                seen.add(field.toString());
            }
        }
        for (Method method : ConsHouse.class.getDeclaredMethods()) {
            if (isSeen(method.getModifiers())) {
                seen.add(method.toString());
            }
        }
        for (Constructor<?> constructor : ConsHouse.class.getDeclaredConstructors()) {
            seen.add(constructor.toString());
        }
        TreeSet<String> want = new TreeSet<>(Arrays.asList(
            "public static final int ConsHouse.NONE",
            "public ConsHouse(int,int,int)",
            "public boolean ConsHouse.write(long)",
            "public void ConsHouse.clear()",
            "public int ConsHouse.next() throws java.lang.IllegalArgumentException,java.lang.IllegalStateException",
            "public int ConsHouse.fault()",
            "public int ConsHouse.place()",
            "public int ConsHouse.size()",
            "public int ConsHouse.out(int)",
            "public int ConsHouse.count(int)"));
        Probe.due("the face", want, seen);
        Probe.due("the class is final", true, Modifier.isFinal(ConsHouse.class.getModifiers()));
        Probe.due("NONE", -1, ConsHouse.NONE);
        Probe.end();
    }
}
