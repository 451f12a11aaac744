import java.lang.reflect.Array;
import java.lang.reflect.Field;
import java.lang.reflect.Modifier;
import java.util.ArrayDeque;
import java.util.Collections;
import java.util.Deque;
import java.util.IdentityHashMap;
import java.util.Set;

/** How much one object is made of (rule 12 of LANGUAGE.md), and that no call makes more. */
final class RoomTest {
    private static final Check C = new Check("room");
    private static final int MOST_CALLS = 512, ROOM_OF_OBJECTS = 600000, ROOM_OF_ELEMENTS = 7300000;

    /** The dearest runs: all calls make new objects; all calls but those that are needed look for nudges. */
    public static void main(String[] args) {
        C.sentence("some 600,000 objects and arrays, 7.3 million fields and elements in all");
        long[] one = new long[2];
        measure(new BumperBalls(), one);
        C.holds("objects of 512 new ones: " + one[0] * MOST_CALLS, one[0] * MOST_CALLS < ROOM_OF_OBJECTS);
        C.holds("elements of 512 new ones: " + one[1] * MOST_CALLS, one[1] * MOST_CALLS < ROOM_OF_ELEMENTS);
        for (int pins = 0; pins <= 6; pins++) {
            searches(pins);
        }
        C.end();
    }

    private static void searches(int pins) {
        StringBuilder text = new StringBuilder("law1;");
        for (int k = 0; k < pins; k++) {
            text.append("pin gate").append(k).append(" 1 0 0;");
        }
        BumperBalls x = Check.with(text.append("ball0 0 0;").toString());
        x.kept(20);
        long[] used = new long[2];
        measure(x, used);
        int calls = 3 + (text.length() + 7) / 8;
        long elements = used[1] * (MOST_CALLS / calls);
        C.holds("elements of searches with " + pins + " pins: " + elements, elements < ROOM_OF_ELEMENTS);
        everyCall(x);
        long[] again = new long[2];
        measure(x, again);
        C.due("objects behind all the calls", again[0], used[0]);
        C.due("elements behind all the calls", again[1], used[1]);
    }

    private static void everyCall(BumperBalls x) {
        x.row(0, 0, 40);
        x.set(0, 0, 1);
        x.copy(0, 0, 0, 1, 30);
        for (int k = 0; k < 20; k++) {
            x.steps(2);
            x.nudge();
            x.put(k, k % 4);
            x.ahead(200, 0);
            x.lasts(k % 2);
            x.richest(40, 0);
            x.nudged(0, 20);
            x.kept(20);
            x.heard(0, 0, 1, 0);
            x.image(k % 2);
            x.undo();
            x.ask(0, k % 2);
        }
        x.restore(0);
        x.drop(0);
    }

    /** Objects and arrays that can be reached, and their fields and elements. */
    private static void measure(Object root, long[] count) {
        Set<Object> seen = Collections.newSetFromMap(new IdentityHashMap<>());
        Deque<Object> open = new ArrayDeque<>();
        open.add(root);
        while (!open.isEmpty()) {
            Object one = open.pop();
            if (!seen.add(one)) {
                continue;
            }
            count[0]++;
            if (one.getClass().isArray()) {
                count[1] += Array.getLength(one);
                for (int k = 0; one instanceof Object[] && k < Array.getLength(one); k++) {
                    if (Array.get(one, k) != null) {
                        open.add(Array.get(one, k));
                    }
                }
            } else if (one.getClass().getName().startsWith("BumperBalls")) {
                fields(one, open, count);
            }
        }
    }

    private static void fields(Object one, Deque<Object> open, long[] count) {
        for (Field field : one.getClass().getDeclaredFields()) {
            if (!Modifier.isStatic(field.getModifiers())) {
                count[1]++;
                Object held = field.getType().isPrimitive() ? null : value(one, field);
                if (held != null) {
                    open.add(held);
                }
            }
        }
    }

    private static Object value(Object of, Field field) {
        try {
            field.setAccessible(true);
            return field.get(of);
        } catch (IllegalAccessException closed) {
            throw new IllegalStateException(closed);
        }
    }
}
