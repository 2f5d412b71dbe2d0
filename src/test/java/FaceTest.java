import java.lang.reflect.Constructor;
import java.lang.reflect.Field;
import java.lang.reflect.Member;
import java.lang.reflect.Method;
import java.lang.reflect.Modifier;
import java.util.Set;
import java.util.TreeSet;

/** The public face is the document's, and no member beside it can be seen from outside. */
public final class FaceTest {
    private static final String[] FACE = {
        "int county(int, int, int, int)", "int ofMan(int, int)", "int truth(int)", "int stand(int, int)",
        "int learn(int, int)", "int answer(int, int)", "int strikes(int, int)", "int dangers(int)",
        "int storm(int, int, int, int, int)", "int place(int, int, int, int, int)",
        "int teach(int, int, int, int, int)", "int worst(int, int)", "long fair(int, int, int, int, int)",
        "int worth(int)", "int reading(int, int, boolean)", "int back(int)", "int truths(int)", "int stood(int)",
        "int kinds(int)", "int knew(int, int)", "long odds(int, int, int)", "int sheet(int, int, int)",
        "int lose(int)", "int put(int, int, int)", "long cell(int, int, int)", "int copy(int, int, int, int, int)",
        "int tell(int)", "int hail(int)", "int as(int, int)", "int trace()", "int fault()", "int many(int)"};
    private static final Set<String> CONSTANTS =
        Set.of("UNKNOWN", "OUTSIDE", "STATE", "FULL", "NONE", "LOST");

    private static final Checks c = new Checks();

    public static void main(String[] args) {
        c.due("UNKNOWN", ThunderAsks.UNKNOWN, -1);
        c.due("OUTSIDE", ThunderAsks.OUTSIDE, -2);
        c.due("STATE", ThunderAsks.STATE, -3);
        c.due("FULL", ThunderAsks.FULL, -4);
        c.due("NONE", ThunderAsks.NONE, -9);
        c.due("LOST", ThunderAsks.LOST, Long.MIN_VALUE);
        c.due("public and final", ThunderAsks.class.getModifiers(), Modifier.PUBLIC | Modifier.FINAL);
        methods();
        fields();
        for (Constructor<?> made : ThunderAsks.class.getDeclaredConstructors()) {
            c.due(made.toString(), isPublic(made) && made.getParameterCount() == 0 ? 1 : 0, 1);
        }
        for (Class<?> inside : ThunderAsks.class.getDeclaredClasses()) {
            boolean hidden = (inside.getModifiers() & (Modifier.PUBLIC | Modifier.PROTECTED)) == 0;
            c.due(inside + " is hidden and static", hidden && Modifier.isStatic(inside.getModifiers()) ? 1 : 0, 1);
        }
        c.end("FaceTest");
    }

    private static boolean isPublic(Member member) {
        return Modifier.isPublic(member.getModifiers());
    }

    private static void methods() {
        Set<String> missing = new TreeSet<>(Set.of(FACE));
        Set<String> open = new TreeSet<>();
        for (Method method : ThunderAsks.class.getDeclaredMethods()) {
            if (isPublic(method)) {
                open.add(method.getName());
                c.due("of the face: " + method, missing.remove(told(method)) ? 1 : 0, 1);
            }
        }
        c.due("missing: " + missing, missing.size(), 0);
        for (Method method : ThunderAsks.class.getDeclaredMethods()) {
            if (!isPublic(method)) {
                boolean hidden = Modifier.isPrivate(method.getModifiers()) && !open.contains(method.getName());
                c.due("private, with a name of its own: " + method, hidden ? 1 : 0, 1);
            }
        }
    }

    private static String told(Method method) {
        StringBuilder told = new StringBuilder();
        told.append(method.getReturnType().getName()).append(' ').append(method.getName()).append('(');
        String comma = "";
        for (Class<?> type : method.getParameterTypes()) {
            told.append(comma).append(type.getName());
            comma = ", ";
        }
        return told.append(')').toString();
    }

    private static void fields() {
        for (Field field : ThunderAsks.class.getDeclaredFields()) {
            boolean right = CONSTANTS.contains(field.getName())
                ? isPublic(field)
                : Modifier.isPrivate(field.getModifiers());
            boolean fixed = !Modifier.isStatic(field.getModifiers()) || Modifier.isFinal(field.getModifiers());
            c.due("seen as it should be: " + field, right && fixed ? 1 : 0, 1);
        }
    }
}
