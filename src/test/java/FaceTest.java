import java.lang.reflect.Constructor;
import java.lang.reflect.Field;
import java.lang.reflect.Method;
import java.lang.reflect.Modifier;
import java.util.Set;
import java.util.TreeSet;

/** The public face: the document's members, and no other that is not private. */
public final class FaceTest {
    private static final String[] DUE = {
        "field static final int NONE",
        "constructor ()",
        "feed(long, int) int throws IllegalArgumentException IllegalStateException",
        "open(int, int) int throws IndexOutOfBoundsException IllegalArgumentException",
        "run(int, int, int, int, int) int throws IndexOutOfBoundsException IllegalArgumentException",
        "read(int, int) int throws IndexOutOfBoundsException IllegalArgumentException",
        "row(int) int throws IndexOutOfBoundsException",
        "make(int, int) boolean throws IndexOutOfBoundsException",
        "clear(int) int throws IndexOutOfBoundsException",
        "session(int, int, int) int throws IndexOutOfBoundsException",
        "key(int, int, int) int throws IndexOutOfBoundsException",
        "state(int, int) int throws IndexOutOfBoundsException",
        "place() int",
        "byteAt(int) int throws IndexOutOfBoundsException",
    };

    public static void main(String[] args) {
        Probe.due("the face", face().toString(), new TreeSet<>(Set.of(DUE)).toString());
        int modifiers = TwinKeepers.class.getModifiers();
        Probe.due("public and final", Modifier.isPublic(modifiers) && Modifier.isFinal(modifiers), true);
        for (Class<?> inside : TwinKeepers.class.getDeclaredClasses()) {
            boolean hidden = !Modifier.isPublic(inside.getModifiers()) && !Modifier.isProtected(inside.getModifiers());
            Probe.due(inside + " is hidden and static", hidden && Modifier.isStatic(inside.getModifiers()), true);
        }
        Probe.end();
    }

    private static Set<String> face() {
        Set<String> told = new TreeSet<>();
        for (Field field : TwinKeepers.class.getDeclaredFields()) {
            if (!Modifier.isPrivate(field.getModifiers())) {
                told.add("field " + Modifier.toString(field.getModifiers()).replace("public ", "") + " "
                        + field.getType() + " " + field.getName());
            }
        }
        for (Constructor<?> made : TwinKeepers.class.getDeclaredConstructors()) {
            if (!Modifier.isPrivate(made.getModifiers())) {
                told.add("constructor " + list(made.getParameterTypes()));
            }
        }
        for (Method method : TwinKeepers.class.getDeclaredMethods()) {
            if (!Modifier.isPrivate(method.getModifiers())) {
                told.add(method.getName() + list(method.getParameterTypes()) + " " + method.getReturnType()
                        + thrown(method.getExceptionTypes()) + (Modifier.isPublic(method.getModifiers()) ? "" : "?"));
            }
        }
        return told;
    }

    private static String list(Class<?>[] types) {
        StringBuilder told = new StringBuilder("(");
        for (int i = 0; i < types.length; i++) {
            told.append(i == 0 ? "" : ", ").append(types[i]);
        }
        return told.append(")").toString();
    }

    private static String thrown(Class<?>[] types) {
        StringBuilder told = new StringBuilder();
        for (Class<?> type : types) {
            told.append(told.length() == 0 ? " throws " : " ").append(type.getSimpleName());
        }
        return told.toString();
    }
}
