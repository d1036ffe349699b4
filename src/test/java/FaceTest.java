import java.lang.reflect.Constructor;
import java.lang.reflect.Field;
import java.lang.reflect.Method;
import java.lang.reflect.Modifier;
import java.util.Set;
import java.util.TreeSet;

/** The public face is the document's, and nothing else can be seen from outside. */
public final class FaceTest {
    private static final Set<String> FACE = Set.of(
            "NONE int", "SequencedBatches(int)",
            "submit(int,int,int,int,int) int", "close(int) int", "resend(int,int) int",
            "messages() int", "message(int) int", "deliver(int) boolean", "drop(int) boolean",
            "crash(int) boolean", "restart(int) boolean", "admit(int,int) int", "look(int,int,int) int",
            "checkpoint(int) int", "value(int,int) int", "status(int) int", "logged(int,int) int",
            "admitted(int,int) int", "finished(int,int) int", "ready(int,int) int", "locks(int,int) int",
            "stored(int,int,int) int");

    public static void main(String[] args) {
        Due due = new Due("FaceTest");
        Set<String> seen = visibleMembers();
        due.is("visible members " + seen, seen.equals(new TreeSet<>(FACE)), true);
        int modifiers = SequencedBatches.class.getModifiers();
        due.is("public and final", Modifier.isPublic(modifiers) && Modifier.isFinal(modifiers), true);
        due.end();
    }

    private static Set<String> visibleMembers() {
        Set<String> seen = new TreeSet<>();
        for (Field field : SequencedBatches.class.getDeclaredFields()) {
            if (!Modifier.isPrivate(field.getModifiers())) {
                seen.add(field.getName() + " " + field.getType());
            }
        }
        for (Constructor<?> constructor : SequencedBatches.class.getDeclaredConstructors()) {
            if (!Modifier.isPrivate(constructor.getModifiers())) {
                seen.add("SequencedBatches(" + names(constructor.getParameterTypes()) + ")");
            }
        }
        for (Method method : SequencedBatches.class.getDeclaredMethods()) {
            if (!Modifier.isPrivate(method.getModifiers())) {
                seen.add(method.getName() + "(" + names(method.getParameterTypes()) + ") " + method.getReturnType());
            }
        }
        return seen;
    }

    private static String names(Class<?>[] types) {
        StringBuilder names = new StringBuilder();
        for (Class<?> type : types) {
            names.append(names.length() == 0 ? "" : ",").append(type.getName());
        }
        return names.toString();
    }
}
