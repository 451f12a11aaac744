import java.util.Random;

/** Long runs of calls, each asked of the program and of the model, two runs by turns; the same each time. */
final class ModelTest {
    private static final int RUNS = 1500, CALLS = 400;
    private static final int[] WILD = {-1, 41, 42, 400, 1000, Integer.MIN_VALUE, Integer.MAX_VALUE};
    private static final String[] SORTS = {"bumper", "lefter", "righter", "lamp", "gate"};
    private static final Check C = new Check("model");

    private final int seed;
    private final Random random;
    private final BumperBalls x = new BumperBalls();
    private final Model m = new Model();
    private int calls = 0;

    private ModelTest(int seed) {
        this.seed = seed;
        random = new Random(seed);
    }

    public static void main(String[] args) {
        C.sentence("all, by turns");
        for (int seed = 0; seed < RUNS; seed += 2) {
            byTurns(new ModelTest(seed), new ModelTest(seed + 1));
        }
        C.end();
    }

    private static void byTurns(ModelTest one, ModelTest other) {
        while (one.calls < CALLS || other.calls < CALLS) {
            one.goOn();
            other.goOn();
        }
    }

    /** Of ten runs one begins without a table. */
    private void goOn() {
        if (calls >= CALLS) {
            return;
        }
        if (calls == 0 && seed % 10 != 0) {
            feed(text());
            due("table()", x.table(), m.table());
        } else if (random.nextInt(60) == 0) {
            feed(random.nextInt(3) == 0 ? spoiled(text()) : text());
            due("table()", x.table(), m.table());
            due("fault()", x.fault(), m.fault());
        } else {
            one(random.nextInt(33));
        }
        due("status()", x.status(), m.status());
    }

    private void due(String call, int got, int want) {
        calls++;
        C.due(call, got, want);
    }

    /** A number below n, now and then another one. */
    private int upTo(int n) {
        return random.nextInt(25) == 0 ? WILD[random.nextInt(WILD.length)] : random.nextInt(n);
    }

    private void one(int which) {
        int a = upTo(8);
        int b = upTo(7);
        int c = upTo(12);
        int d = upTo(3);
        int n = upTo(22);
        int pin = upTo(6);
        switch (which) {
            case 0 -> due("row", x.row(a, d, n * 2), m.row(a, d, n * 2));
            case 1, 2, 3, 4 -> set();
            case 5 -> due("copy", x.copy(a, b, pin, d, c), m.copy(a, b, pin, d, c));
            case 6 -> due("drop", x.drop(a), m.drop(a));
            case 7 -> feedAny(c);
            case 8, 9 -> due("steps", x.steps(c), m.steps(c));
            case 10, 11 -> due("nudge", x.nudge(), m.nudge());
            case 12 -> due("flip", x.flip(), m.flip());
            case 13, 14, 15 -> put();
            case 16 -> due("undo", x.undo(), m.undo());
            case 17 -> all();
            case 18, 19 -> due("ahead", x.ahead(n * 9, b), m.ahead(n * 9, b));
            case 20 -> due("lasts 0", x.lasts(d), m.lasts(d));
            case 21 -> due("lasts 1", x.lasts(1), m.lasts(1));
            case 22 -> due("richest", x.richest(n * 2, d), m.richest(n * 2, d));
            case 23, 24 -> due("nudged", x.nudged(b / 2, n), m.nudged(b / 2, n));
            case 25 -> due("kept", x.kept(n), m.kept(n));
            case 26, 27 -> due("heard", x.heard(b / 2, pin, c / 2, d), m.heard(b / 2, pin, c / 2, d));
            case 28 -> due("image", x.image(d), m.image(d));
            case 29 -> due("restore", x.restore(d), m.restore(d));
            case 30 -> due("as", x.as(pin, b), m.as(pin, b));
            default -> ask(pin, d);
        }
    }

    private void feedAny(int n) {
        long w = random.nextLong();
        due("feed", x.feed(w, n), m.feed(w, n));
    }

    /** A row that begins with some letters, and holds any number further on. */
    private void set() {
        int row = random.nextInt(4);
        int lane = random.nextInt(3);
        due("row", x.row(row, lane, 12), m.row(row, lane, 12));
        for (int i = 0; i < 5; i++) {
            int letter = random.nextInt(3);
            due("set", x.set(row, i, letter), m.set(row, i, letter));
        }
        int place = upTo(14);
        int value = random.nextInt() >> random.nextInt(32);
        due("set", x.set(row, place, value), m.set(row, place, value));
    }

    private void put() {
        int cell = upTo(42);
        int way = upTo(4);
        due("put", x.put(cell, way), m.put(cell, way));
    }

    private void ask(int pin, int what) {
        due("kind", x.kind(pin), m.kind(pin));
        due("ask", x.ask(pin, what), m.ask(pin, what));
        for (int i = -1; i < 7; i++) {
            due("trace", x.trace(i), m.trace(i));
        }
    }

    private void all() {
        for (int what = -1; what < 7; what++) {
            due("ball " + what, x.ball(what), m.ball(what));
            due("count " + what, x.count(what), m.count(what));
            int pin = random.nextInt(7);
            due("pin", x.pin(pin, what), m.pin(pin, what));
        }
    }

    private void feed(String text) {
        for (int from = 0; from < text.length(); from += 8) {
            String part = text.substring(from, Math.min(text.length(), from + 8));
            long w = random.nextInt();
            for (char c : part.toCharArray()) {
                w = w << 8 | c;
            }
            due("feed", x.feed(w, part.length()), m.feed(w, part.length()));
        }
    }

    /** A text of a table; now and then with a number, a pin, too many. */
    private String text() {
        StringBuilder text = new StringBuilder(blank() + "law" + blank() + (1 + random.nextInt(20)) + blank() + ";");
        int pins = random.nextInt(7);
        for (int k = 0; k < pins; k++) {
            text.append(blank()).append("pin ").append(SORTS[random.nextInt(5)]).append(blank());
            text.append(random.nextInt(7)).append(' ').append(blank()).append(random.nextInt(6)).append(' ');
            text.append(random.nextInt(4)).append(' ').append(random.nextInt(100)).append(";").append(blank());
        }
        text.append("ball ").append(random.nextInt(7)).append(' ').append(random.nextInt(6)).append("\n");
        return text.append(random.nextInt(4)).append(blank()).append(';').append(blank()).toString();
    }

    private String blank() {
        return switch (random.nextInt(6)) {
            case 0 -> " ";
            case 1 -> "\n ";
            default -> "";
        };
    }

    private String spoiled(String text) {
        StringBuilder spoiled = new StringBuilder(text);
        int place = random.nextInt(text.length());
        switch (random.nextInt(5)) {
            case 0 -> spoiled.setCharAt(place, (char) random.nextInt(256));
            case 1 -> spoiled.insert(place, (char) ('0' + random.nextInt(10)));
            case 2 -> spoiled.deleteCharAt(place);
            case 3 -> spoiled.setLength(place);
            default -> spoiled.insert(place, "pin lamp 1 2 3 4;");
        }
        return spoiled.toString();
    }
}
