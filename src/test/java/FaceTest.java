import java.lang.reflect.Constructor;
import java.lang.reflect.Field;
import java.lang.reflect.Method;
import java.lang.reflect.Modifier;
import java.util.Set;
import java.util.TreeSet;

/** The public face: what the document prints, and nothing more that is seen from outside. */
final class FaceTest {
    private static final Check CHECK = new Check();
    private static final String INDEX = " IndexOutOfBoundsException";
    private static final Set<String> WANT = Set.of(
        "NONE int", "BAD int", "STATE int", "new ()",
        "number (int, int, int) void" + INDEX, "small (int, long) void" + INDEX + " IllegalArgumentException",
        "offer () int", "answer () int", "accept () int", "alter (int, int, int) int" + INDEX,
        "sent (int, int) int" + INDEX, "key (int, int) int" + INDEX + " IllegalStateException", "state () int",
        "begin () void", "secret (int) int" + INDEX);

    public static void main(String[] args) {
        CHECK.due("NONE", KeyMeeting.NONE, -1);
        CHECK.due("BAD", KeyMeeting.BAD, -10);
        CHECK.due("STATE", KeyMeeting.STATE, -11);
        CHECK.due("public and final", KeyMeeting.class.getModifiers(), Modifier.PUBLIC | Modifier.FINAL);
        Set<String> face = face();
        if (!face.equals(WANT)) {
            CHECK.tell("the face is " + new TreeSet<>(face) + ", due is " + new TreeSet<>(WANT));
        }
        classesInside();
        CHECK.end();
    }

    private static void classesInside() {
        for (Class<?> inside : KeyMeeting.class.getDeclaredClasses()) {
            int modifiers = inside.getModifiers();
            CHECK.due(inside + " is static", modifiers & Modifier.STATIC, Modifier.STATIC);
            CHECK.due(inside + " is not seen", modifiers & (Modifier.PUBLIC | Modifier.PROTECTED), 0);
        }
    }

    private static Set<String> face() {
        Set<String> face = new TreeSet<>();
        for (Field field : KeyMeeting.class.getDeclaredFields()) {
            if (isSeen(field.getModifiers())) {
                face.add(field.getName() + " " + field.getType());
                CHECK.due(field.getName(), field.getModifiers(), Modifier.PUBLIC | Modifier.STATIC | Modifier.FINAL);
            }
        }
        for (Constructor<?> constructor : KeyMeeting.class.getDeclaredConstructors()) {
            face.add("new " + types(constructor.getParameterTypes()));
            CHECK.due("constructor", constructor.getModifiers(), Modifier.PUBLIC);
        }
        for (Method method : KeyMeeting.class.getDeclaredMethods()) {
            if (isSeen(method.getModifiers())) {
                face.add(method.getName() + " " + types(method.getParameterTypes()) + " " + method.getReturnType()
                    + thrown(method));
                CHECK.due(method.getName(), method.getModifiers(), Modifier.PUBLIC);
            }
        }
        return face;
    }

    private static boolean isSeen(int modifiers) {
        return !Modifier.isPrivate(modifiers);
    }

    private static String thrown(Method method) {
        StringBuilder text = new StringBuilder();
        for (Class<?> type : method.getExceptionTypes()) {
            text.append(' ').append(type.getSimpleName());
        }
        return text.toString();
    }

    private static String types(Class<?>[] all) {
        StringBuilder text = new StringBuilder("(");
        for (Class<?> type : all) {
            text.append(text.length() == 1 ? "" : ", ").append(type);
        }
        return text.append(")").toString();
    }
}
