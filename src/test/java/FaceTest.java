import java.lang.reflect.Constructor;
import java.lang.reflect.Field;
import java.lang.reflect.Method;
import java.lang.reflect.Modifier;
import java.util.Arrays;
import java.util.Set;
import java.util.TreeSet;

/** The public face of the document: all of it, and no other member that can be seen from outside. */
public final class FaceTest {
    private static final Set<String> FACE = new TreeSet<>(Arrays.asList(
            "int BAD", "int LOW", "int FULL", "FloorQueue(int,int,int)",
            "int push(int,int)", "int lower(int,int)", "int pop()", "int floor()", "int size()",
            "int key(int)", "int bucket(int)", "int many(int)", "int placed()",
            "int arc(int,int,int)", "int run(int)", "int distance(int)", "int before(int)",
            "boolean sound()", "int count(int)"));

    public static void main(String[] args) {
        Check.due("public and final", FloorQueue.class.getModifiers(), Modifier.PUBLIC | Modifier.FINAL);
        Check.due("BAD", FloorQueue.BAD, -1);
        Check.due("LOW", FloorQueue.LOW, -2);
        Check.due("FULL", FloorQueue.FULL, -3);
        Set<String> seen = seenFromOutside();
        for (String member : FACE) {
            Check.due("has " + member, seen.contains(member), true);
        }
        for (String member : seen) {
            Check.due("may have " + member, FACE.contains(member), true);
        }
        Check.end("FaceTest");
    }

    private static Set<String> seenFromOutside() {
        Set<String> seen = new TreeSet<>();
        Set<String> open = new TreeSet<>();
        for (Field field : FloorQueue.class.getDeclaredFields()) {
            if (!Modifier.isPrivate(field.getModifiers())) {
                seen.add(field.getType() + " " + field.getName());
            }
            if (Modifier.isStatic(field.getModifiers())) {
                Check.due("final: " + field.getName(), Modifier.isFinal(field.getModifiers()), true);
            }
        }
        for (Constructor<?> made : FloorQueue.class.getDeclaredConstructors()) {
            seen.add("FloorQueue" + named(made.getParameterTypes()));
        }
        for (Method method : FloorQueue.class.getDeclaredMethods()) {
            if (!Modifier.isPrivate(method.getModifiers())) {
                seen.add(method.getReturnType() + " " + method.getName() + named(method.getParameterTypes()));
                open.add(method.getName());
            }
        }
        for (Method method : FloorQueue.class.getDeclaredMethods()) {
            if (Modifier.isPrivate(method.getModifiers())) {
                Check.due("a name of its own: " + method.getName(), open.contains(method.getName()), false);
            }
        }
        return seen;
    }

    private static String named(Class<?>[] types) {
        StringBuilder text = new StringBuilder("(");
        for (Class<?> type : types) {
            text.append(text.length() > 1 ? "," : "").append(type.getName());
        }
        return text.append(")").toString();
    }
}
