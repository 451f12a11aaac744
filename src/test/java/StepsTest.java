/** Promises 9 to 15: steps, nudges, flips, balls that are put, what is undone. */
final class StepsTest {
    private static final Check C = new Check("steps");
    private static final int UP = 0, RIGHT = 1, DOWN = 2, LEFT = 3;

    public static void main(String[] args) {
        promise9Sides();
        promise9Pins();
        promise9Gates();
        promise9Letters();
        promise9Refused();
        promise9Full();
        promise10Nudge();
        promise11Flip();
        promise12Put();
        promise13Undo();
        promise13Oldest();
        promise14Ball();
        promise15Pin();
        C.end();
    }

    private static void stands(BumperBalls x, String when, int cell, int way) {
        C.due(when + ": cell", x.ball(0), cell);
        C.due(when + ": way", x.ball(1), way);
    }

    private static void goes(String text, int steps, int cell, int way) {
        BumperBalls x = Check.with(text);
        C.due("steps of " + text, x.steps(steps), steps);
        stands(x, text, cell, way);
        C.due("not lost: " + text, x.ball(2), 0);
    }

    private static void promise9Sides() {
        goes("law 5;ball 3 2 0;", 1, 24, UP);
        goes("law 5;ball 3 2 1;", 1, 18, RIGHT);
        goes("law 5;ball 3 2 2;", 1, 10, DOWN);
        goes("law 5;ball 3 2 3;", 1, 16, LEFT);
        goes("law 5;ball 2 5 0;", 1, 37, DOWN);
        goes("law 5;ball 6 3 1;", 1, 27, LEFT);
        goes("law 5;ball 0 4 3;", 1, 28, RIGHT);
        goes("law 5;ball 0 0 1;", 24, 3, LEFT);
        BumperBalls x = Check.with("law 5;ball 3 2 2;");
        C.due("till it is lost", x.steps(24), 3);
        stands(x, "lost", 3, DOWN);
        C.due("lost", x.ball(2), 1);
        C.due("steps gone", x.count(2), 3);
        C.due("acts", x.count(3), 3);
        C.due("steps of a lost one", x.steps(1), Check.STATE);
    }

    /** The ball comes to the pin in 3, 2 from each side. */
    private static void turns(String sort, int fromUp, int fromRight, int fromDown, int fromLeft) {
        String pin = "law 5;pin " + sort + " 3 2 0 1;";
        goes(pin + "ball 3 1 0;", 1, 17, fromUp);
        goes(pin + "ball 2 2 1;", 1, 17, fromRight);
        goes(pin + "ball 3 3 2;", 1, 17, fromDown);
        goes(pin + "ball 4 2 3;", 1, 17, fromLeft);
    }

    private static void promise9Pins() {
        turns("bumper", DOWN, LEFT, UP, RIGHT);
        turns("lefter", LEFT, UP, RIGHT, DOWN);
        turns("righter", RIGHT, DOWN, LEFT, UP);
        turns("lamp", UP, RIGHT, DOWN, LEFT);
        turns("gate", DOWN, LEFT, UP, RIGHT);
        staysInACellWithAPin();
    }

    /** A ball that stays in its cell goes to none: the pin there is not struck. */
    private static void staysInACellWithAPin() {
        BumperBalls x = Check.with("law 5;pin lamp 6 2 0 1;ball 5 2 1;");
        x.steps(1);
        stands(x, "in the lamp", 20, RIGHT);
        x.steps(1);
        stands(x, "turned back in it", 20, LEFT);
        C.due("struck once", x.pin(0, 3), 1);
        C.due("score", x.ball(4), 1);
        BumperBalls y = Check.with("law 5;pin bumper 6 2 0 1;ball 6 3 2;");
        y.steps(3);
        stands(y, "back up", 34, UP);
    }

    private static void promise9Gates() {
        BumperBalls x = Check.with("law 5;pin gate 3 2 0 1;ball 3 0 0;");
        x.steps(2);
        stands(x, "shut", 17, DOWN);
        C.due("open now", x.pin(0, 4), 1);
        x.put(31, DOWN);
        x.steps(2);
        stands(x, "open", 17, DOWN);
        C.due("shut now", x.pin(0, 4), 0);
        C.due("struck", x.pin(0, 3), 2);
        x.put(31, DOWN);
        x.steps(2);
        stands(x, "shut again", 17, UP);
    }

    private static void promise9Letters() {
        String pins = "law 5;pin lamp 1 2 4 10;pin lamp 2 2 4 20;pin lamp 3 2 5 30;pin lamp 4 2 4 40;pin lamp 5 2 4 99;";
        BumperBalls x = Check.with(pins + "ball 0 2 1;");
        int[] scores = {10, 10, 40, 80, 80, 80, 80, 80};
        int[] letters = {4, 4, 5, 4, 4, 4, 4, 4};
        for (int k = 0; k < scores.length; k++) {
            x.steps(1);
            C.due("score behind " + (k + 1), x.ball(4), scores[k]);
            C.due("lit behind " + (k + 1), x.ball(5), letters[k]);
        }
        C.due("struck on the way there, and back", x.pin(4, 3), 2);
        C.due("one that pays nothing is struck", x.pin(1, 3), 1);
        x.put(0, UP);
        C.due("a new ball leaves the score", x.ball(4), 80);
        C.due("and the letter", x.ball(5), 4);
        BumperBalls y = Check.with("law 5;pin lamp 1 2 0 7;ball 0 2 1;");
        y.steps(1);
        C.due("letter 0 is not lit at first", y.ball(4), 7);
    }

    private static void promise9Refused() {
        BumperBalls x = new BumperBalls();
        C.due("no table", x.steps(1), Check.STATE);
        C.due("no table, ahead of BAD", x.steps(0), Check.STATE);
        Check.read(x, "law 5;ball 0 0 2;");
        for (int bad : new int[] {0, -1, 25, Integer.MIN_VALUE, Integer.MAX_VALUE}) {
            C.due("steps(" + bad + ")", x.steps(bad), Check.BAD);
        }
        x.steps(1);
        C.due("BAD ahead of lost", x.steps(25), Check.BAD);
        C.due("lost", x.steps(24), Check.STATE);
    }

    private static void promise9Full() {
        BumperBalls x = Check.with("law 5;ball 0 0 1;");
        for (int k = 0; k < 416; k++) {
            x.steps(24);
        }
        C.due("gone", x.count(2), 9984);
        C.due("more might be gone", x.steps(16), Check.FULL);
        C.due("BAD ahead of FULL", x.steps(25), Check.BAD);
        C.due("nothing has changed", x.count(2), 9984);
        C.due("the last", x.steps(15), 15);
        C.due("one more", x.steps(1), Check.FULL);
        x.put(0, DOWN);
        C.due("a ball that would be lost", x.steps(1), Check.FULL);
        x.undo();
        x.undo();
        C.due("one is undone", x.steps(1), 1);
        C.due("ahead is no step gone", x.ahead(200, 1), x.ahead(200 - 14, 1));
        x.nudge();
        x.put(0, DOWN);
        x.undo();
        x.undo();
        x.undo();
        x.put(0, DOWN);
        C.due("lost in time", x.steps(1), 1);
        C.due("lost ahead of FULL", x.steps(1), Check.STATE);
    }

    private static void promise10Nudge() {
        BumperBalls x = new BumperBalls();
        C.due("no table", x.nudge(), Check.STATE);
        Check.read(x, "law 6;ball 3 2 3;");
        C.due("nudge", x.nudge(), 3);
        stands(x, "to the right", 17, UP);
        C.due("shakes", x.ball(3), 3);
        C.due("nudge", x.nudge(), 6);
        stands(x, "to the right", 17, RIGHT);
        C.due("as many as tilt", x.ball(2), 0);
        x.steps(1);
        C.due("one less", x.ball(3), 5);
        C.due("nudge", x.nudge(), 8);
        C.due("above tilt", x.ball(2), 1);
        stands(x, "lost", 18, DOWN);
        C.due("lost", x.nudge(), Check.STATE);
        C.due("acts", x.count(3), 4);
        C.due("steps", x.count(2), 1);
        x.undo();
        x.steps(4);
        C.due("fade", x.ball(3), 1);
        x.steps(3);
        C.due("0 at least", x.ball(3), 0);
        BumperBalls y = Check.with("law 9;ball 0 0 1;");
        y.nudge();
        C.due("lost by a step", y.steps(1), 1);
        C.due("that fades, too", y.ball(3), 2);
    }

    private static void promise11Flip() {
        BumperBalls x = new BumperBalls();
        C.due("no table", x.flip(), Check.STATE);
        Check.read(x, "law 6;ball 4 1 2;");
        C.due("y 1", x.flip(), Check.STATE);
        x.steps(1);
        C.due("flip", x.flip(), 4);
        stands(x, "up", 4, UP);
        C.due("acts", x.count(3), 2);
        C.due("up", x.flip(), Check.STATE);
        x.put(6, RIGHT);
        C.due("right", x.flip(), Check.STATE);
        x.put(0, LEFT);
        C.due("left", x.flip(), Check.STATE);
        x.put(6, DOWN);
        C.due("the last cell of y 0", x.flip(), 6);
        x.put(7, DOWN);
        C.due("the first of y 1", x.flip(), Check.STATE);
        x.put(0, DOWN);
        x.steps(1);
        C.due("lost", x.flip(), Check.STATE);
        x.put(0, DOWN);
        x.nudge();
        x.put(0, DOWN);
        C.due("shakes stay 0", x.ball(3), 0);
        C.due("flip", x.flip(), 0);
        C.due("no shakes by a flip", x.ball(3), 0);
        C.due("no steps by a flip", x.count(2), 2);
    }

    private static void promise12Put() {
        BumperBalls x = new BumperBalls();
        C.due("no table", x.put(0, 0), Check.STATE);
        C.due("no table, ahead of BAD", x.put(42, 0), Check.STATE);
        Check.read(x, "law 6;pin bumper 3 2 1 5;ball 3 1 0;");
        x.steps(1);
        x.nudge();
        C.due("put", x.put(41, 3), 167);
        stands(x, "put", 41, 3);
        C.due("shakes", x.ball(3), 0);
        C.due("score stays", x.ball(4), 5);
        C.due("lit stays", x.ball(5), 1);
        C.due("struck stays", x.pin(0, 3), 1);
        C.due("steps stay", x.count(2), 1);
        C.due("put", x.put(0, 0), 0);
        for (int bad : new int[] {-1, 42, 17, Integer.MIN_VALUE, Integer.MAX_VALUE}) {
            C.due("put(" + bad + ", 0)", x.put(bad, 0), Check.BAD);
        }
        for (int bad : new int[] {-1, 4, Integer.MIN_VALUE, Integer.MAX_VALUE}) {
            C.due("put(0, " + bad + ")", x.put(0, bad), Check.BAD);
        }
        C.due("acts", x.count(3), 4);
        x.put(0, 2);
        x.steps(1);
        C.due("lost", x.ball(2), 1);
        C.due("put behind it", x.put(5, 1), 21);
        C.due("not lost", x.ball(2), 0);
        C.due("put the same", x.put(5, 1), 21);
        C.due("that is an act, too", x.count(3), 8);
    }

    private static void promise13Undo() {
        BumperBalls x = new BumperBalls();
        C.due("none", x.undo(), Check.STATE);
        Check.read(x, "law 6;pin gate 3 2 1 5;ball 3 0 0;");
        x.steps(2);
        x.nudge();
        x.nudge();
        x.nudge();
        C.due("lost", x.ball(2), 1);
        C.due("undo", x.undo(), 4);
        C.due("not lost", x.ball(2), 0);
        C.due("shakes", x.ball(3), 6);
        x.undo();
        x.undo();
        stands(x, "behind two steps", 17, DOWN);
        C.due("shakes", x.ball(3), 0);
        C.due("undo a step", x.undo(), 1);
        stands(x, "behind one step", 10, UP);
        C.due("score", x.ball(4), 0);
        C.due("lit", x.ball(5), -1);
        C.due("struck", x.pin(0, 3), 0);
        C.due("shut", x.pin(0, 4), 0);
        C.due("steps", x.count(2), 1);
        C.due("undo the first", x.undo(), 0);
        stands(x, "at first", 3, UP);
        C.due("none more", x.undo(), Check.STATE);
        x.put(2, DOWN);
        x.flip();
        C.due("undo a flip", x.undo(), 1);
        stands(x, "down", 2, DOWN);
        C.due("undo a put", x.undo(), 0);
        stands(x, "where it was", 3, UP);
    }

    private static void promise13Oldest() {
        BumperBalls x = Check.with("law 6;ball 0 0 1;");
        x.steps(24);
        x.steps(3);
        C.due("24 at most", x.count(3), 24);
        for (int k = 23; k >= 0; k--) {
            C.due("undo", x.undo(), k);
        }
        C.due("the oldest are forgotten", x.undo(), Check.STATE);
        stands(x, "behind three steps", 3, RIGHT);
        C.due("steps", x.count(2), 3);
        x.steps(24);
        x.steps(24);
        x.steps(1);
        for (int k = 0; k < 24; k++) {
            x.undo();
        }
        C.due("steps", x.count(2), 28);
    }

    private static void promise14Ball() {
        BumperBalls x = new BumperBalls();
        C.due("no table", x.ball(0), Check.STATE);
        C.due("no table, ahead of BAD", x.ball(6), Check.STATE);
        Check.read(x, "law 2;pin lamp 3 2 6 50;ball 2 2 1;");
        int[] first = {16, 1, 0, 0, 0, -1};
        int[] struck = {17, 1, 0, 0, 50, 6};
        int[] lost = {17, 2, 1, 3, 50, 6};
        answers(x, "first", first);
        x.steps(1);
        answers(x, "struck", struck);
        x.nudge();
        answers(x, "lost", lost);
        for (int bad : new int[] {-1, 6, Integer.MIN_VALUE, Integer.MAX_VALUE}) {
            C.due("ball(" + bad + ")", x.ball(bad), Check.BAD);
        }
    }

    private static void answers(BumperBalls x, String when, int[] want) {
        for (int what = 0; what < want.length; what++) {
            C.due(when + ": ball(" + what + ")", x.ball(what), want[what]);
        }
    }

    private static void promise15Pin() {
        BumperBalls x = new BumperBalls();
        C.due("no table", x.pin(0, 0), Check.BAD);
        Check.read(x, "law 9;pin gate 3 2 6 50;pin gate 3 4 5 40;pin lamp 1 0 4 30;ball 3 1 0;");
        x.steps(1);
        int[][] want = {{17, 6, 50, 1, 1}, {31, 5, 40, 0, 0}, {1, 4, 30, 0, 0}};
        for (int pin = 0; pin < 3; pin++) {
            for (int what = 0; what < 5; what++) {
                C.due("pin(" + pin + ", " + what + ")", x.pin(pin, what), want[pin][what]);
            }
        }
        for (int bad : new int[] {-1, 3, 6, Integer.MIN_VALUE, Integer.MAX_VALUE}) {
            C.due("pin(" + bad + ", 0)", x.pin(bad, 0), Check.BAD);
        }
        for (int bad : new int[] {-1, 5, Integer.MIN_VALUE, Integer.MAX_VALUE}) {
            C.due("pin(0, " + bad + ")", x.pin(0, bad), Check.BAD);
        }
        x.put(0, RIGHT);
        x.steps(1);
        C.due("a lamp that was struck", x.pin(2, 3), 1);
        C.due("is not open", x.pin(2, 4), 0);
    }
}
