/** Promises 24 to 29: kinds, asks of pins, the trace, counts, status. */
final class AskedTest {
    private static final Check C = new Check("asked");
    private static final int MIN = Integer.MIN_VALUE, MAX = Integer.MAX_VALUE;
    private static final String ALL = "law 5;pin bumper 1 5 0 10;pin lefter 2 4 1 20;pin righter 3 3 2 30;"
        + "pin lamp 4 3 3 40;pin gate 5 3 4 50;ball 1 0 0;";

    public static void main(String[] args) {
        promise24Kind();
        promise25As();
        promise26Size();
        promise26Mark();
        promise26Struck();
        promise27Trace();
        promise28Count();
        promise29Status();
        C.end();
    }

    private static void promise24Kind() {
        BumperBalls x = new BumperBalls();
        C.due("no table", x.kind(0), Check.BAD);
        Check.read(x, ALL);
        for (int pin = 0; pin < 5; pin++) {
            C.due("kind(" + pin + ")", x.kind(pin), pin + 1);
        }
        for (int bad : new int[] {-1, 5, 6, MIN, MAX}) {
            C.due("kind(" + bad + ")", x.kind(bad), Check.BAD);
        }
    }

    private static void promise25As() {
        BumperBalls x = new BumperBalls();
        C.due("no table", x.as(0, 0), Check.BAD);
        Check.read(x, ALL);
        String[] is = {"01", "012", "013", "04", "045"};
        for (int pin = 0; pin < 5; pin++) {
            for (int kind = 0; kind < 6; kind++) {
                boolean isSo = is[pin].indexOf('0' + kind) >= 0;
                C.due("as(" + pin + ", " + kind + ")", x.as(pin, kind), isSo ? pin : Check.KIND);
                C.due("status", x.status(), isSo ? 0 : 3);
            }
            C.due("it stays of its kind", x.kind(pin), pin + 1);
        }
        for (int bad : new int[] {-1, 5, MIN, MAX}) {
            C.due("as(" + bad + ", 0)", x.as(bad, 0), Check.BAD);
        }
        for (int bad : new int[] {-1, 6, MIN, MAX}) {
            C.due("as(0, " + bad + ")", x.as(0, bad), Check.BAD);
        }
    }

    private static void asked(BumperBalls x, int pin, int what, int want, int... bodies) {
        String call = "ask(" + pin + ", " + what + ")";
        C.due(call, x.ask(pin, what), want);
        for (int i = 0; i < 16; i++) {
            C.due("trace(" + i + ") of " + call, x.trace(i), i < bodies.length ? bodies[i] : Check.NONE);
        }
    }

    private static void promise26Size() {
        BumperBalls x = Check.with(ALL);
        asked(x, 0, 0, 10 + 0, 11, 10, 21, 20);
        asked(x, 1, 0, -(20 + 2), 12, 11, 10, 24, 21, 20);
        asked(x, 2, 0, 30 + 2 - 1000, 11, 10, 22, 21, 20);
        asked(x, 3, 0, 40 - 100, 13, 10);
        asked(x, 4, 0, 2 * (50 - 100), 14, 13, 10);
    }

    private static void promise26Mark() {
        BumperBalls x = Check.with(ALL);
        asked(x, 0, 1, 0, 21, 20);
        asked(x, 1, 1, 2, 24, 21, 20);
        asked(x, 2, 1, 2 - 1000, 22, 21, 20);
        asked(x, 3, 1, 3 - (40 - 100), 23, 20, 13, 10);
        asked(x, 4, 1, 4 - 2 * (50 - 100), 23, 20, 14, 13, 10);
        for (int bad : new int[] {-1, 5, MIN, MAX}) {
            C.due("ask(" + bad + ", 0)", x.ask(bad, 0), Check.BAD);
        }
        for (int bad : new int[] {-1, 2, MIN, MAX}) {
            C.due("ask(0, " + bad + ")", x.ask(0, bad), Check.BAD);
        }
    }

    /** How often a pin was struck is in the answers of bumpers alone. */
    private static void promise26Struck() {
        BumperBalls x = Check.with(ALL);
        for (int pin = 0; pin < 5; pin++) {
            for (int k = 0; k <= pin; k++) {
                x.put(x.pin(pin, 0) - 7, 0);
                x.steps(1);
            }
            C.due("struck", x.pin(pin, 3), pin + 1);
        }
        asked(x, 0, 0, 10 + 1, 11, 10, 21, 20);
        asked(x, 0, 1, 1, 21, 20);
        asked(x, 1, 0, -(20 + 2 * (1 + 2)), 12, 11, 10, 24, 21, 20);
        asked(x, 1, 1, 2 * (1 + 2), 24, 21, 20);
        asked(x, 2, 0, 30 + 2 + 3 - 1000, 11, 10, 22, 21, 20);
        asked(x, 2, 1, 2 + 3 - 1000, 22, 21, 20);
        asked(x, 3, 0, -60, 13, 10);
        asked(x, 3, 1, 63, 23, 20, 13, 10);
        asked(x, 4, 0, -100, 14, 13, 10);
        asked(x, 4, 1, 104, 23, 20, 14, 13, 10);
    }

    private static void promise27Trace() {
        BumperBalls x = new BumperBalls();
        for (int i : new int[] {-1, 0, 15, 16, MIN, MAX}) {
            C.due("empty: trace(" + i + ")", x.trace(i), Check.NONE);
        }
        Check.read(x, ALL);
        x.ask(1, 0);
        x.ask(9, 0);
        x.ask(0, 9);
        x.kind(0);
        x.as(0, 5);
        x.steps(1);
        Check.read(x, "law 5;ball 0 0 0;");
        int[] bodies = {12, 11, 10, 24, 21, 20};
        for (int i = 0; i < bodies.length; i++) {
            C.due("trace(" + i + ") stays", x.trace(i), bodies[i]);
        }
        for (int i : new int[] {-1, 6, 15, 16, MIN, MAX}) {
            C.due("trace(" + i + ")", x.trace(i), Check.NONE);
        }
    }

    private static void promise28Count() {
        BumperBalls x = new BumperBalls();
        for (int bad : new int[] {-1, 6, MIN, MAX}) {
            C.due("count(" + bad + ")", x.count(bad), Check.BAD);
        }
        x.row(0, 0, 0);
        x.row(5, 0, 1);
        x.row(7, 0, 40);
        Check.read(x, ALL);
        x.steps(7);
        x.nudge();
        x.undo();
        x.put(0, 1);
        x.put(0, 1);
        Check.feed(x, "hi");
        int[] want = {3, 5, 7, 9, 5, 2};
        for (int what = 0; what < want.length; what++) {
            C.due("count(" + what + ")", x.count(what), want[what]);
        }
        x.drop(5);
        C.due("one row less", x.count(0), 2);
    }

    private static void promise29Status() {
        BumperBalls x = Check.with(ALL);
        C.due("none yet", x.status(), 0);
        x.as(0, 5);
        C.due("KIND", x.status(), 3);
        x.as(0, 6);
        x.as(5, 0);
        x.kind(9);
        x.ask(0, 0);
        x.image(0);
        x.restore(0);
        x.count(0);
        x.status();
        C.due("KIND still", x.status(), 3);
        x.as(0, 1);
        C.due("none", x.status(), 0);
        x.drop(3);
        C.due("NULL", x.status(), 1);
        x.as(4, 4);
        C.due("none by as()", x.status(), 0);
        x.row(0, 0, 1);
        x.heard(0, 0, 2, 0);
        C.due("PLACE by heard()", x.status(), 2);
        x.heard(0, 0, 11, 0);
        C.due("BAD leaves it", x.status(), 2);
        x.heard(0, 0, 1, 0);
        C.due("none by heard()", x.status(), 0);
    }
}
