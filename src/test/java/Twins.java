import java.util.ArrayList;
import java.util.List;
import java.util.function.ToIntFunction;

/**
 * How an object can stand. Each way is made twice, alike; a call is made of one of the two alone, and then both
 * are asked for all that they tell. So that no object has more than 512 calls, this is done for a part at a time.
 */
enum Twins {
    /** No table; rows, a fault. */
    BARE,
    /** A table of all kinds that was played on, with shakes, all acts that are kept, an image, a trace. */
    PLAYED,
    /** The same, the ball is lost. */
    LOST,
    /** The same, with as many bytes on the tape as it can have. */
    FED,
    /** The same, as an image kept it: no act can be undone. */
    RESTORED,
    /** As many steps are gone as can be. */
    LATE,
    /** The same, the ball is lost. */
    LATE_LOST;

    /** The status that each of them tells: of a copy between two lanes. */
    static final int STATUS = 5;

    private static final String PINS = "law 7;pin bumper 1 3 0 10;pin lefter 5 4 1 20;pin righter 3 4 2 30;pin lamp 4 2 3 40;"
        + "pin gate 0 2 4 50;ball 3 1 0;";
    private static final String NEXT = "law 3;pin lamp 6 5 7 99;ball 2 0 1;";
    // By a ball that goes up column k the letter k is struck.
    private static final String LAMPS = "law 5;pin lamp 0 5 0 1;pin lamp 1 5 1 1;pin lamp 2 5 2 1;pin lamp 3 5 3 1;"
        + "pin lamp 4 5 4 1;pin lamp 5 5 5 1;ball 6 0 0;";

    BumperBalls made() {
        BumperBalls x = new BumperBalls();
        Check.read(x, "law 0;");
        rows(x);
        if (this == LATE || this == LATE_LOST) {
            late(x);
        } else if (this != BARE) {
            played(x);
        }
        x.copy(0, 0, 1, 0, 0);
        return x;
    }

    private static void rows(BumperBalls x) {
        Check.fill(x, 0, 0, new int[] {1, 2, 9, 3, 3});
        Check.fill(x, 1, 1, new int[] {4, 5});
        Check.fill(x, 2, 2, new int[] {0, -1, 2});
        x.row(4, 0, 0);
        x.row(7, 0, 40);
    }

    private void late(BumperBalls x) {
        Check.read(x, "law 5;ball 0 0 1;");
        for (int k = 0; k < 416; k++) {
            x.steps(24);
        }
        x.steps(14);
        if (this == LATE_LOST) {
            x.put(0, 2);
        }
        x.steps(1);
    }

    private void played(BumperBalls x) {
        Check.read(x, "law 9;pin gate 3 3 2 5;ball 3 2 0;");
        x.steps(1);
        x.image(1);
        Check.read(x, PINS);
        for (int cell : new int[] {15, 26, 24, 11, 7}) {
            x.put(cell, 0);
            x.steps(2);
        }
        x.put(0, 2);
        x.flip();
        x.steps(9);
        x.ask(1, 0);
        x.nudge();
        x.nudge();
        if (this == LOST) {
            x.nudge();
        }
        if (this == RESTORED) {
            x.restore(1);
        }
        if (this == FED) {
            Check.feed(x, NEXT + " ".repeat(400 - NEXT.length()));
        }
    }

    /** What is asked answers as is due, the status is as told, and all else is as with the one that was not asked. */
    void unchanged(Check c, String call, ToIntFunction<BumperBalls> asked, int want, int status) {
        for (int part = 0; part < (this == LATE || this == LATE_LOST ? 1 : 4); part++) {
            BumperBalls x = made();
            c.due(this + ": " + call, asked.applyAsInt(x), want);
            c.due(this + ": status() behind " + call, x.status(), status);
            same(c, call, told(part, x), told(part, made()));
        }
    }

    private void same(Check c, String call, List<String> one, List<String> other) {
        c.due(this + ": how much is told behind " + call, one.size(), other.size());
        for (int k = 0; k < one.size() && k < other.size(); k++) {
            c.holds(this + ": behind " + call + " " + one.get(k) + ", else " + other.get(k), one.get(k).equals(other.get(k)));
        }
    }

    private static List<String> told(int part, BumperBalls x) {
        List<String> told = new ArrayList<>();
        switch (part) {
            case 0 -> stands(x, told);
            case 1 -> undone(x, told);
            case 2 -> restored(x, told);
            default -> read(x, told);
        }
        return told;
    }

    private static void stands(BumperBalls x, List<String> told) {
        plays(x, told);
        told.add("fault() " + x.fault());
        for (int what = 0; what < 6; what++) {
            told.add("count(" + what + ") " + x.count(what));
        }
        for (int i = 0; i < 8; i++) {
            told.add("trace(" + i + ") " + x.trace(i));
        }
        for (int pin = 0; pin < 5; pin++) {
            told.add("kind(" + pin + ") " + x.kind(pin));
            for (int what = 0; what < 3; what++) {
                told.add("pin(" + pin + ", " + what + ") " + x.pin(pin, what));
            }
        }
    }

    private static void plays(BumperBalls x, List<String> told) {
        for (int what = 0; what < 6; what++) {
            told.add("ball(" + what + ") " + x.ball(what));
        }
        for (int pin = 0; pin < 5; pin++) {
            told.add("pin(" + pin + ", 3) " + x.pin(pin, 3));
        }
        told.add("pin(4, 4) " + x.pin(4, 4));
        told.add("count(2) " + x.count(2));
    }

    private static void undone(BumperBalls x, List<String> told) {
        for (int k = 0; k < 25; k++) {
            told.add("undo() " + x.undo());
            plays(x, told);
        }
    }

    private static void restored(BumperBalls x, List<String> told) {
        for (int k = 0; k < 2; k++) {
            told.add("restore(" + k + ") " + x.restore(k));
            stands(x, told);
        }
    }

    private static void read(BumperBalls x, List<String> told) {
        told.add("table() " + x.table());
        stands(x, told);
        Check.read(x, LAMPS);
        for (int row = 0; row < 8; row++) {
            for (int i = 0; i < 6; i++) {
                told.add("heard(" + row + ", " + i + ", 1, 1) " + x.heard(row, i, 1, 1));
            }
            told.add("set(" + row + ", 0, 98304) " + x.set(row, 0, 98304));
            told.add("set(" + row + ", 0, 255) " + x.set(row, 0, 255));
            told.add("drop(" + row + ") " + x.drop(row));
        }
    }
}
