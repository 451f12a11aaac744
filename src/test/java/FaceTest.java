import com.sun.source.tree.MethodTree;
import com.sun.source.tree.Tree;
import com.sun.source.tree.VariableTree;
import java.io.IOException;
import java.lang.reflect.Constructor;
import java.lang.reflect.Field;
import java.lang.reflect.Method;
import java.lang.reflect.Modifier;
import java.nio.charset.StandardCharsets;
import java.nio.file.Files;
import java.nio.file.Path;
import java.util.ArrayList;
import java.util.HashMap;
import java.util.List;
import java.util.Map;
import java.util.Set;
import java.util.TreeSet;
import java.util.regex.Matcher;
import java.util.regex.Pattern;

/** The public face, as the document writes it, and that no other member can be seen from outside. */
final class FaceTest {
    private static final Check C = new Check("face");
    private static final Path DOCUMENT = Path.of("../shared/DOC.md");
    private static final Set<String> METHODS = Set.of("row(int,int,int)", "set(int,int,int)", "copy(int,int,int,int,int)",
        "drop(int)", "feed(long,int)", "table()", "fault()", "steps(int)", "nudge()", "flip()", "put(int,int)", "undo()",
        "ball(int)", "pin(int,int)", "ahead(int,int)", "lasts(int)", "richest(int,int)", "nudged(int,int)", "kept(int)",
        "heard(int,int,int,int)", "image(int)", "restore(int)", "kind(int)", "as(int,int)", "ask(int,int)", "trace(int)",
        "count(int)", "status()");

    public static void main(String[] args) throws IOException {
        C.sentence("The public face");
        Class<?> face = BumperBalls.class;
        C.holds("public and final", Modifier.isPublic(face.getModifiers()) && Modifier.isFinal(face.getModifiers()));
        C.holds("it is of no other class", face.getSuperclass() == Object.class && face.getInterfaces().length == 0);
        C.due("NONE", BumperBalls.NONE, -1000000);
        C.due("BAD", BumperBalls.BAD, -1000001);
        C.due("STATE", BumperBalls.STATE, -1000002);
        C.due("FULL", BumperBalls.FULL, -1000003);
        constructors(face);
        methods(face);
        fields(face);
        for (Class<?> inside : face.getDeclaredClasses()) {
            for (Method method : inside.getDeclaredMethods()) {
                C.holds(method + " has a name of its own", METHODS.stream().noneMatch(m -> isNamed(m, method)));
            }
        }
        asTheDocumentWritesIt();
        C.end();
    }

    private static boolean isNamed(String signature, Method method) {
        return signature.startsWith(method.getName() + "(");
    }

    private static void constructors(Class<?> face) {
        Constructor<?>[] all = face.getDeclaredConstructors();
        C.due("constructors", all.length, 1);
        C.holds("public", Modifier.isPublic(all[0].getModifiers()));
        C.due("parameters", all[0].getParameterCount(), 0);
    }

    private static void methods(Class<?> face) {
        Set<String> found = new TreeSet<>();
        for (Method method : face.getDeclaredMethods()) {
            if (Modifier.isPrivate(method.getModifiers())) {
                C.holds(method + " has a name of its own", METHODS.stream().noneMatch(m -> isNamed(m, method)));
                continue;
            }
            StringBuilder signature = new StringBuilder(method.getName()).append('(');
            for (Class<?> type : method.getParameterTypes()) {
                signature.append(signature.charAt(signature.length() - 1) == '(' ? "" : ",").append(type.getName());
            }
            found.add(signature.append(')').toString());
            C.holds(method + " is public and answers an int", Modifier.isPublic(method.getModifiers())
                && !Modifier.isStatic(method.getModifiers()) && method.getReturnType() == int.class);
        }
        C.holds("methods: " + found, found.equals(METHODS));
    }

    private static void fields(Class<?> face) {
        int constants = 0;
        for (Field field : face.getDeclaredFields()) {
            int is = field.getModifiers();
            if (!Modifier.isPrivate(is)) {
                constants++;
                C.holds(field + " is a constant", Modifier.isPublic(is) && Modifier.isStatic(is) && Modifier.isFinal(is)
                    && field.getType() == int.class);
            }
        }
        C.due("constants", constants, 4);
    }

    private static void asTheDocumentWritesIt() throws IOException {
        String document = Files.readString(DOCUMENT, StandardCharsets.UTF_8);
        Source source = new Source(Source.PROGRAM);
        C.sentence("The public face: each line of it, in its order");
        List<String> told = faceOf(document);
        List<String> written = faceOf(source);
        C.due("lines", written.size(), told.size());
        for (int k = 0; k < told.size() && k < written.size(); k++) {
            C.holds("'" + written.get(k) + "' stands where '" + told.get(k) + "' is due", written.get(k).equals(told.get(k)));
        }
        C.sentence("Ahead of the calls .. the interface says: ----");
        Map<String, String> heads = headsOf(document);
        C.due("calls that have a head", heads.size(), METHODS.size());
        for (Tree member : source.face().getMembers()) {
            if (member instanceof MethodTree method && heads.containsKey(method.getName().toString())) {
                String name = method.getName().toString();
                String due = heads.get(name);
                C.holds("ahead of " + name + " stands '" + due + "'", headOf(source, method).equals(due));
            }
        }
    }

    /** The lines between the braces; the constants stand in one of them. */
    private static List<String> faceOf(String document) {
        String face = document.substring(document.indexOf("public final class BumperBalls {"));
        List<String> lines = new ArrayList<>();
        for (String line : face.substring(face.indexOf('{') + 1, face.indexOf('}')).split(";")) {
            if (line.isBlank()) {
                continue;
            }
            if (line.contains("static final")) {
                for (String constant : line.substring(line.indexOf("int ") + 4).split(",")) {
                    lines.add("public static final int " + constant.trim());
                }
            } else {
                lines.add(line.trim());
            }
        }
        return lines;
    }

    private static List<String> faceOf(Source source) {
        List<String> lines = new ArrayList<>();
        for (Tree member : source.face().getMembers()) {
            if (member instanceof VariableTree field && isPublic(field.getModifiers().toString())) {
                lines.add(field.toString().trim());
            } else if (member instanceof MethodTree method && isPublic(method.getModifiers().toString())) {
                String type = method.getReturnType() == null ? "" : method.getReturnType() + " ";
                String name = method.getReturnType() == null ? "BumperBalls" : method.getName().toString();
                List<String> parameters = new ArrayList<>();
                method.getParameters().forEach(p -> parameters.add(p.getType() + " " + p.getName()));
                lines.add("public " + type + name + "(" + String.join(", ", parameters) + ")");
            }
        }
        return lines;
    }

    private static boolean isPublic(String modifiers) {
        return modifiers.contains("public");
    }

    /** Of each call the words that the document wants ahead of it. */
    private static Map<String, String> headsOf(String document) {
        Map<String, String> heads = new HashMap<>();
        Matcher sentences = Pattern.compile("Ahead of the calls (.*) the interface says: (----[^.]*)\\.").matcher(document);
        while (sentences.find()) {
            for (String call : sentences.group(1).split(", ")) {
                heads.put(call.replace("`", ""), sentences.group(2));
            }
        }
        return heads;
    }

    /** The latest of such words that stands ahead of a method. */
    private static String headOf(Source source, MethodTree method) {
        Matcher heads = Pattern.compile("(?m)^ *// (----.*)$").matcher(source.text);
        String latest = "";
        while (heads.find() && heads.start() < source.begin(method)) {
            latest = heads.group(1);
        }
        return latest;
    }
}
