import java.lang.reflect.Constructor;
import java.lang.reflect.Field;
import java.lang.reflect.Method;
import java.lang.reflect.Modifier;
import java.util.Set;
import java.util.TreeSet;

/** The public face, its constants, and that no other member can be seen from outside. */
final class FaceTest {
    private static final Check C = new Check("face");
    private static final Set<String> METHODS = Set.of("row(int,int,int)", "set(int,int,int)", "copy(int,int,int,int,int)",
        "drop(int)", "feed(long,int)", "table()", "fault()", "steps(int)", "nudge()", "flip()", "put(int,int)", "undo()",
        "ball(int)", "pin(int,int)", "ahead(int,int)", "lasts(int)", "richest(int,int)", "nudged(int,int)", "kept(int)",
        "heard(int,int,int,int)", "image(int)", "restore(int)", "kind(int)", "as(int,int)", "ask(int,int)", "trace(int)",
        "count(int)", "status()");

    public static void main(String[] args) {
        C.sentence("The public face");
        Class<?> face = BumperBalls.class;
        C.holds("public and final", Modifier.isPublic(face.getModifiers()) && Modifier.isFinal(face.getModifiers()));
        C.due("NONE", BumperBalls.NONE, -1000000);
        C.due("BAD", BumperBalls.BAD, -1000001);
        C.due("STATE", BumperBalls.STATE, -1000002);
        C.due("FULL", BumperBalls.FULL, -1000003);
        constructors(face);
        methods(face);
        fields(face);
        for (Class<?> inside : face.getDeclaredClasses()) {
            C.holds(inside + " is static", Modifier.isStatic(inside.getModifiers()));
            C.holds(inside + " is not public", !Modifier.isPublic(inside.getModifiers()));
            C.due("fields of " + inside, Math.max(20, fieldsOf(inside)), 20);
            for (Method method : inside.getDeclaredMethods()) {
                C.holds(method + " has a name of its own", METHODS.stream().noneMatch(m -> isNamed(m, method)));
            }
        }
        C.due("classes", Math.max(12, face.getDeclaredClasses().length + 1), 12);
        C.end();
    }

    private static boolean isNamed(String signature, Method method) {
        return signature.startsWith(method.getName() + "(");
    }

    private static int fieldsOf(Class<?> type) {
        int fields = 0;
        for (Field field : type.getDeclaredFields()) {
            fields += Modifier.isStatic(field.getModifiers()) ? 0 : 1;
        }
        return fields;
    }

    private static void constructors(Class<?> face) {
        Constructor<?>[] all = face.getDeclaredConstructors();
        C.due("constructors", all.length, 1);
        C.holds("public", Modifier.isPublic(all[0].getModifiers()));
        C.due("parameters", all[0].getParameterCount(), 0);
    }

    private static void methods(Class<?> face) {
        Set<String> found = new TreeSet<>();
        for (Method method : face.getDeclaredMethods()) {
            if (Modifier.isPrivate(method.getModifiers())) {
                C.holds(method + " has a name of its own", METHODS.stream().noneMatch(m -> isNamed(m, method)));
                continue;
            }
            StringBuilder signature = new StringBuilder(method.getName()).append('(');
            for (Class<?> type : method.getParameterTypes()) {
                signature.append(signature.charAt(signature.length() - 1) == '(' ? "" : ",").append(type.getName());
            }
            found.add(signature.append(')').toString());
            C.holds(method + " is public and answers an int", Modifier.isPublic(method.getModifiers())
                && !Modifier.isStatic(method.getModifiers()) && method.getReturnType() == int.class);
        }
        C.holds("methods: " + found, found.equals(METHODS));
    }

    private static void fields(Class<?> face) {
        int constants = 0;
        for (Field field : face.getDeclaredFields()) {
            int is = field.getModifiers();
            if (!Modifier.isPrivate(is)) {
                constants++;
                C.holds(field + " is a constant", Modifier.isPublic(is) && Modifier.isStatic(is) && Modifier.isFinal(is)
                    && field.getType() == int.class);
            }
            C.holds(field + ", static, is final", !Modifier.isStatic(is) || Modifier.isFinal(is));
        }
        C.due("constants", constants, 4);
    }
}
