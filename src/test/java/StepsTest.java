/** Promises 9 to 15, part 2 of the terms: steps, nudges, flips, puts, what is undone. A test for each sentence. */
final class StepsTest {
    private static final Check C = new Check("steps");
    private static final int UP = 0, RIGHT = 1, DOWN = 2, LEFT = 3;
    private static final int MIN = Check.MIN, MAX = Check.MAX;
    private static final String EMPTY = "law 20;ball 0 0 1;";
    private static final String[] SORTS = {"bumper", "lefter", "righter", "lamp", "gate"};

    public static void main(String[] args) {
        cellsAreNumbered();
        toTheRight();
        toTheLeft();
        back();
        oneCellItsWay();
        beyondYNull();
        toYNull();
        beyondAnotherSide();
        toAnotherSide();
        inACellWithAPin();
        aPinAtASide();
        pays();
        lettersThatAreLit();
        noOtherOneIsLit();
        pinsTurn();
        gatesOpenAndShut();
        gatesStandAlone();
        shakesFade();
        shakesOfANudge();
        aboveTilt();
        nudgeOfALostOne();
        flipInYNull();
        flipOfWays();
        flipOfALostOne();
        putInEachCell();
        putBeyond();
        putOnPins();
        theOneBeforeIsGone();
        stepsTold();
        tillItIsLost();
        lastOfStepsIsTheLosing();
        fullAtTheEnd();
        fullByWhatMightBe();
        fullNoMore();
        struckByEachStep();
        actsOfSteps();
        actsThatAreKept();
        nothingBecomesAnother();
        theLatestFirst();
        eachCanBeUndone();
        undoneToNone();
        noTable();
        ballTells();
        pinTells();
        C.end();
    }

    private static void stands(BumperBalls x, String when, int cell, int way) {
        C.due(when + ": ball(0)", x.ball(0), cell);
        C.due(when + ": ball(1)", x.ball(1), way);
    }

    private static String ball(int cell, int way) {
        return "ball " + cell % 7 + " " + cell / 7 + " " + way + ";";
    }

    private static void goes(String pins, int from, int way, int to, int wayThen) {
        BumperBalls x = Check.with("law 5;" + pins + ball(from, way));
        String when = pins + ball(from, way);
        C.due("steps(1) of " + when, x.steps(1), 1);
        stands(x, when, to, wayThen);
        C.due(when + " is lost", x.ball(2), 0);
    }

    private static void cellsAreNumbered() {
        C.sentence("CELLS x 0 to 6 (from left), y 0 to 5 (from below); a CELL's number is 7 y and x");
        for (int y = 0; y < 6; y++) {
            for (int x = 0; x < 7; x++) {
                BumperBalls b = Check.with("law 5;ball " + x + " " + y + " 0;");
                C.due("ball " + x + " " + y, b.ball(0), 7 * y + x);
                BumperBalls p = Check.with("law 5;pin lamp " + x + " " + y + " 0 0;ball " + (x == 0 ? 1 : 0) + " 0 0;");
                C.due("pin " + x + " " + y, p.pin(0, 0), 7 * y + x);
            }
        }
    }

    private static void toTheRight() {
        C.sentence("to the right of a WAY is the next one (of 3: 0)");
        BumperBalls x = Check.with("law 20;ball 3 3 0;");
        for (int way : new int[] {RIGHT, DOWN, LEFT, UP, RIGHT, DOWN}) {
            x.nudge();
            C.due("nudged", x.ball(1), way);
        }
        for (int way = 0; way < 4; way++) {
            goes("pin righter 3 3 0 0;", 24 - new int[] {7, 1, -7, -1}[way], way, 24, way == 3 ? 0 : way + 1);
        }
    }

    private static void toTheLeft() {
        C.sentence("to the left the one ahead (of 0: 3)");
        for (int way = 0; way < 4; way++) {
            goes("pin lefter 3 3 0 0;", 24 - new int[] {7, 1, -7, -1}[way], way, 24, way == 0 ? 3 : way - 1);
        }
    }

    private static void back() {
        C.sentence("back is the one behind the next one");
        for (int way = 0; way < 4; way++) {
            goes("pin bumper 3 3 0 0;", 24 - new int[] {7, 1, -7, -1}[way], way, 24, new int[] {2, 3, 0, 1}[way]);
        }
    }

    private static void oneCellItsWay() {
        C.sentence("In a STEP the ball goes one CELL its WAY.");
        goes("", 17, UP, 24, UP);
        goes("", 17, RIGHT, 18, RIGHT);
        goes("", 17, DOWN, 10, DOWN);
        goes("", 17, LEFT, 16, LEFT);
        BumperBalls x = Check.with("law 5;ball 3 2 1;");
        x.steps(2);
        stands(x, "two steps", 19, RIGHT);
    }

    private static void beyondYNull() {
        C.sentence("Beyond y 0 it is LOST (CELL and WAY as they were)");
        for (int cell = 0; cell < 7; cell++) {
            BumperBalls x = Check.with("law 5;" + ball(cell, DOWN));
            C.due("steps(1)", x.steps(1), 1);
            C.due("lost from " + cell, x.ball(2), 1);
            stands(x, "lost from " + cell, cell, DOWN);
            C.due("score", x.ball(4), 0);
            C.due("lit", x.ball(5), -1);
        }
    }

    private static void toYNull() {
        C.sentence("Beyond y 0: y 0 is not beyond");
        for (int x = 0; x < 7; x++) {
            goes("", 7 + x, DOWN, x, DOWN);
        }
        goes("", 3, LEFT, 2, LEFT);
        goes("", 3, UP, 10, UP);
    }

    private static void beyondAnotherSide() {
        C.sentence("beyond another side it stays in its CELL, and its WAY is turned back");
        for (int x = 0; x < 7; x++) {
            goes("", 35 + x, UP, 35 + x, DOWN);
        }
        for (int y = 0; y < 6; y++) {
            goes("", 7 * y + 6, RIGHT, 7 * y + 6, LEFT);
            goes("", 7 * y, LEFT, 7 * y, RIGHT);
        }
    }

    private static void toAnotherSide() {
        C.sentence("beyond another side: x 0, x 6, y 5 are not beyond");
        for (int x = 0; x < 7; x++) {
            goes("", 28 + x, UP, 35 + x, UP);
        }
        for (int y = 0; y < 6; y++) {
            goes("", 7 * y + 5, RIGHT, 7 * y + 6, RIGHT);
            goes("", 7 * y + 1, LEFT, 7 * y, LEFT);
        }
        goes("", 35, RIGHT, 36, RIGHT);
        goes("", 41, DOWN, 34, DOWN);
        goes("", 6, UP, 13, UP);
    }

    private static void inACellWithAPin() {
        C.sentence("If there is a pin in the CELL to which it goes, that is STRUCK");
        int[] froms = {17, 23, 31, 25};
        for (int way = 0; way < 4; way++) {
            BumperBalls x = Check.with("law 5;pin lamp 3 3 2 9;pin lamp 4 4 3 8;" + ball(froms[way], way));
            C.due("struck ahead", x.pin(0, 3), 0);
            x.steps(1);
            C.due("struck", x.pin(0, 3), 1);
            C.due("the other one", x.pin(1, 3), 0);
            x.steps(1);
            C.due("not struck by going on", x.pin(0, 3), 1);
        }
    }

    /** It goes to no cell then: the pin in its own is not struck. */
    private static void aPinAtASide() {
        C.sentence("it stays in its CELL: a pin there is not STRUCK");
        for (String sort : SORTS) {
            for (int way : new int[] {UP, RIGHT, LEFT}) {
                int cell = new int[] {38, 20, 0, 14}[way];
                int from = cell + 7 * (way == UP ? -1 : 1);
                BumperBalls x = Check.with("law 20;pin " + sort + " " + cell % 7 + " " + cell / 7 + " 2 9;"
                    + ball(from, way == UP ? UP : DOWN));
                x.steps(1);
                for (int nudges = 0; nudges < 4 && x.ball(1) != way; nudges++) {
                    x.nudge();
                }
                int open = x.pin(0, 4);
                x.steps(1);
                stands(x, sort + " at a side", cell, (way + 2) % 4);
                C.due("struck once", x.pin(0, 3), 1);
                C.due("score", x.ball(4), 9);
                C.due("as open as it was", x.pin(0, 4), open);
            }
        }
    }

    private static void pays() {
        C.sentence("it PAYS (SCORE is more)");
        for (int pays : new int[] {0, 1, 98, 99}) {
            BumperBalls x = Check.with("law 5;pin lamp 1 2 4 " + pays + ";pin lamp 2 2 5 7;ball 0 2 1;");
            x.steps(1);
            C.due("ball(4)", x.ball(4), pays);
            C.due("ball(5)", x.ball(5), 4);
            x.steps(1);
            C.due("ball(4)", x.ball(4), pays + 7);
        }
    }

    private static void lettersThatAreLit() {
        C.sentence("but nothing if its LETTER is LIT");
        for (int letter = 0; letter < 8; letter++) {
            BumperBalls x = Check.with("law 5;pin lamp 1 2 " + letter + " 9;pin gate 2 2 " + letter + " 8;ball 0 2 1;");
            C.due("none is lit", x.ball(5), -1);
            x.steps(1);
            C.due("the first pays", x.ball(4), 9);
            x.steps(1);
            C.due("the second, of the same letter, does not", x.ball(4), 9);
            C.due("it is struck", x.pin(1, 3), 1);
            C.due("it is open", x.pin(1, 4), 1);
            C.due("it turns back", x.ball(1), LEFT);
            x.steps(1);
            C.due("the first does not once more", x.ball(4), 9);
            C.due("it is struck once more", x.pin(0, 3), 2);
            C.due("ball(5)", x.ball(5), letter);
        }
    }

    private static void noOtherOneIsLit() {
        C.sentence("its LETTER is LIT then, no other one");
        BumperBalls x = Check.with("law 5;pin lamp 1 2 0 10;pin lamp 2 2 7 20;pin lamp 3 2 0 40;ball 0 2 1;");
        int[] scores = {10, 30, 70, 70, 70, 70, 70, 70, 70, 70, 90, 100};
        int[] lit = {0, 7, 0, 0, 0, 0, 0, 0, 0, 0, 7, 0};
        for (int k = 0; k < scores.length; k++) {
            x.steps(1);
            C.due("score behind " + (k + 1), x.ball(4), scores[k]);
            C.due("lit behind " + (k + 1), x.ball(5), lit[k]);
        }
    }

    /** The ball comes to the pin in 3, 2 by each way. */
    private static void turns(String sort, int... ways) {
        String pin = "pin " + sort + " 3 2 0 1;";
        goes(pin, 10, UP, 17, ways[0]);
        goes(pin, 16, RIGHT, 17, ways[1]);
        goes(pin, 24, DOWN, 17, ways[2]);
        goes(pin, 18, LEFT, 17, ways[3]);
    }

    private static void pinsTurn() {
        C.sentence("A bumper turns the WAY back, a lefter to the left, a righter to the right, a lamp does not; a shut gate turns it back");
        turns("bumper", DOWN, LEFT, UP, RIGHT);
        turns("lefter", LEFT, UP, RIGHT, DOWN);
        turns("righter", RIGHT, DOWN, LEFT, UP);
        turns("lamp", UP, RIGHT, DOWN, LEFT);
        turns("gate", DOWN, LEFT, UP, RIGHT);
    }

    private static void gatesOpenAndShut() {
        C.sentence("an open one does not, then it is open, if it was shut, else shut");
        int[] froms = {10, 16, 24, 18};
        for (int way = 0; way < 4; way++) {
            BumperBalls x = Check.with("law 5;pin gate 3 2 0 1;" + ball(froms[way], way));
            for (int times = 1; times <= 4; times++) {
                x.put(froms[way], way);
                x.steps(1);
                C.due("struck", x.pin(0, 3), times);
                C.due("open behind " + times, x.pin(0, 4), times % 2);
                C.due("way behind " + times, x.ball(1), times % 2 == 1 ? (way + 2) % 4 : way);
            }
        }
    }

    private static void gatesStandAlone() {
        C.sentence("all gates: each by itself");
        BumperBalls x = Check.with("law 5;pin gate 0 5 0 1;pin lamp 1 5 0 1;pin gate 2 5 0 1;pin gate 3 5 0 1;pin gate 4 5 0 1;"
            + "pin gate 5 5 0 1;ball 0 0 1;");
        for (int pin : new int[] {5, 1, 0, 3}) {
            x.put(28 + pin, UP);
            x.steps(1);
        }
        int[] open = {1, 0, 0, 1, 0, 1};
        for (int pin = 0; pin < 6; pin++) {
            C.due("pin(" + pin + ", 4)", x.pin(pin, 4), open[pin]);
        }
        x.put(33, UP);
        x.steps(1);
        C.due("shut", x.pin(5, 4), 0);
        C.due("open", x.pin(0, 4), 1);
    }

    private static void shakesFade() {
        C.sentence("SHAKES are 1 less by a STEP, 0 at least.");
        BumperBalls x = Check.with(EMPTY);
        x.nudge();
        x.nudge();
        x.nudge();
        x.nudge();
        for (int shakes : new int[] {11, 10, 9, 8, 7, 6, 5, 4, 3, 2, 1, 0, 0, 0}) {
            x.steps(1);
            C.due("ball(3)", x.ball(3), shakes);
        }
        x.nudge();
        C.due("one more does not fall below", x.ball(3), 3);
        x.put(7, DOWN);
        x.nudge();
        x.put(0, DOWN);
        x.steps(1);
        C.due("by the losing step, too", x.ball(3), 0);
        BumperBalls y = Check.with("law 5;ball 0 0 1;");
        y.nudge();
        y.steps(1);
        C.due("lost", y.ball(2), 1);
        C.due("1 less by it", y.ball(3), 2);
    }

    private static void shakesOfANudge() {
        C.sentence("By a NUDGE the WAY is turned to the right, SHAKES are 3 more");
        BumperBalls x = Check.with("law 20;ball 3 3 3;");
        C.due("nudge()", x.nudge(), 3);
        stands(x, "nudged", 24, UP);
        C.due("ball(3)", x.ball(3), 3);
        C.due("nudge()", x.nudge(), 6);
        x.steps(2);
        C.due("nudge()", x.nudge(), 7);
        stands(x, "nudged", 26, DOWN);
        C.due("not lost", x.ball(2), 0);
        C.due("no step", x.count(2), 2);
        C.due("no score", x.ball(4), 0);
    }

    private static void aboveTilt() {
        C.sentence("if they are above TILT, the ball is LOST");
        for (int tilt = 1; tilt <= 20; tilt++) {
            BumperBalls x = Check.with("law " + tilt + ";ball 3 3 0;");
            int shakes = 0;
            while (shakes + 3 <= tilt) {
                shakes += 3;
                C.due("nudge() by a tilt of " + tilt, x.nudge(), shakes);
                C.due("not lost", x.ball(2), 0);
            }
            C.due("nudge() by a tilt of " + tilt, x.nudge(), shakes + 3);
            C.due("lost", x.ball(2), 1);
            stands(x, "lost", 24, (shakes / 3 + 1) % 4);
            C.due("ball(3)", x.ball(3), shakes + 3);
        }
        atTilt();
    }

    /** 3, 6, 5, 8, 7, 10: as many as the tilt, and one above it. */
    private static void atTilt() {
        for (int tilt = 8; tilt <= 9; tilt++) {
            BumperBalls x = Check.with("law " + tilt + ";ball 3 3 0;");
            x.nudge();
            x.nudge();
            x.steps(1);
            C.due("nudge()", x.nudge(), 8);
            C.due("8 by a tilt of " + tilt, x.ball(2), 0);
            x.steps(1);
            C.due("nudge()", x.nudge(), 10);
            C.due("10 by a tilt of " + tilt, x.ball(2), 1);
        }
    }

    private static void nudgeOfALostOne() {
        C.sentence("nudge: STATE: it is LOST");
        BumperBalls x = Check.with("law 1;ball 0 0 2;");
        x.nudge();
        C.due("by a nudge", x.nudge(), Check.STATE);
        C.due("count(3)", x.count(3), 1);
        x.undo();
        x.steps(1);
        C.due("by a step", x.nudge(), Check.STATE);
        x.put(0, 2);
        C.due("not any more", x.nudge(), 3);
    }

    private static void flipInYNull() {
        C.sentence("By a FLIP of a ball in y 0");
        BumperBalls x = Check.with(EMPTY);
        for (int cell = 0; cell < 7; cell++) {
            x.put(cell, DOWN);
            C.due("flip()", x.flip(), cell);
            stands(x, "flip", cell, UP);
            C.due("ball(3)", x.ball(3), 0);
            x.put(cell + 7, DOWN);
            C.due("flip() in y 1", x.flip(), Check.STATE);
            stands(x, "no flip", cell + 7, DOWN);
        }
        for (int cell = 14; cell < 42; cell += 3) {
            x.put(cell, DOWN);
            C.due("flip() in " + cell, x.flip(), Check.STATE);
        }
    }

    private static void flipOfWays() {
        C.sentence("whose WAY is down that is up");
        BumperBalls x = Check.with(EMPTY);
        for (int way : new int[] {UP, RIGHT, LEFT}) {
            x.put(3, way);
            C.due("flip() of way " + way, x.flip(), Check.STATE);
            stands(x, "no flip", 3, way);
        }
        x.put(3, RIGHT);
        x.nudge();
        C.due("flip() of one nudged down", x.flip(), 3);
        C.due("shakes stay", x.ball(3), 3);
        C.due("steps stay", x.count(2), 0);
        C.due("flip() again", x.flip(), Check.STATE);
        BumperBalls pin = Check.with("law 5;pin lamp 3 0 2 9;ball 3 1 2;");
        pin.steps(1);
        C.due("flip() on a pin", pin.flip(), 3);
        C.due("it is not struck by it", pin.pin(0, 3), 1);
    }

    private static void flipOfALostOne() {
        C.sentence("flip: STATE: it is LOST");
        BumperBalls x = Check.with("law 5;ball 3 0 2;");
        x.steps(1);
        C.due("flip()", x.flip(), Check.STATE);
        x.undo();
        C.due("flip(), the step is undone", x.flip(), 3);
        C.due("it goes up", x.steps(1), 1);
        C.due("ball(0)", x.ball(0), 10);
    }

    private static void putInEachCell() {
        C.sentence("A ball is PUT: 4 times the CELL, and the WAY.");
        for (int cell = 0; cell < 42; cell++) {
            BumperBalls x = Check.with(EMPTY);
            for (int way = 0; way < 4; way++) {
                C.due("put(" + cell + ", " + way + ")", x.put(cell, way), 4 * cell + way);
                stands(x, "put", cell, way);
            }
        }
    }

    private static void putBeyond() {
        C.sentence("put: BAD");
        BumperBalls x = Check.with(EMPTY);
        for (int bad : new int[] {-1, 42, 43, MIN, MAX}) {
            C.due("put(" + bad + ", 0)", x.put(bad, 0), Check.BAD);
        }
        for (int bad : new int[] {-1, 4, 5, MIN, MAX}) {
            C.due("put(0, " + bad + ")", x.put(0, bad), Check.BAD);
        }
        C.due("count(3)", x.count(3), 0);
    }

    private static void putOnPins() {
        C.sentence("BAD: a CELL with a pin, too");
        BumperBalls x = Check.with("law 5;pin bumper 0 0 0 1;pin lefter 6 0 0 1;pin righter 3 3 0 1;pin lamp 0 5 0 1;"
            + "pin gate 6 5 0 1;pin lamp 5 5 0 1;ball 1 0 1;");
        for (int cell = 0; cell < 42; cell++) {
            boolean isPin = cell == 0 || cell == 6 || cell == 24 || cell == 35 || cell == 41 || cell == 40;
            C.due("put(" + cell + ", 3)", x.put(cell, 3), isPin ? Check.BAD : 4 * cell + 3);
        }
        C.due("no pin is struck", x.pin(0, 3) + x.pin(2, 3), 0);
        C.due("lit", x.ball(5), -1);
    }

    private static void theOneBeforeIsGone() {
        C.sentence("the one before is gone; it is not LOST, SHAKES are 0");
        BumperBalls x = Check.with("law 6;pin bumper 3 2 1 5;ball 3 1 0;");
        x.steps(1);
        x.nudge();
        x.nudge();
        C.due("put(41, 3)", x.put(41, 3), 167);
        int[] ball = {41, 3, 0, 0, 5, 1};
        for (int what = 0; what < 6; what++) {
            C.due("ball(" + what + ")", x.ball(what), ball[what]);
        }
        C.due("struck stays", x.pin(0, 3), 1);
        C.due("steps stay", x.count(2), 1);
        C.due("count(3)", x.count(3), 4);
        x.put(0, DOWN);
        x.steps(1);
        C.due("lost", x.ball(2), 1);
        x.put(5, 1);
        C.due("not lost", x.ball(2), 0);
        C.due("steps(1)", x.steps(1), 1);
        C.due("ball(0)", x.ball(0), 6);
        x.nudge();
        x.nudge();
        x.nudge();
        C.due("lost by tilt", x.ball(2), 1);
        x.put(5, 1);
        C.due("not lost", x.ball(2), 0);
        C.due("no shakes", x.ball(3), 0);
        C.due("nudge()", x.nudge(), 3);
    }

    private static void stepsTold() {
        C.sentence("n STEPS (1 to 24)");
        for (int n = 1; n <= 24; n++) {
            BumperBalls x = Check.with(EMPTY);
            C.due("steps(" + n + ")", x.steps(n), n);
            C.due("count(2)", x.count(2), n);
            C.due("ball(0)", x.ball(0), new int[] {0, 1, 2, 3, 4, 5, 6, 6, 5, 4, 3, 2, 1, 0}[n % 14]);
        }
        BumperBalls x = Check.with(EMPTY);
        for (int bad : new int[] {0, -1, 25, MIN, MAX}) {
            C.due("steps(" + bad + ")", x.steps(bad), Check.BAD);
        }
        C.due("count(2)", x.count(2), 0);
    }

    private static void tillItIsLost() {
        C.sentence("till it is LOST: how many there were");
        BumperBalls x = Check.with("law 5;ball 3 5 2;");
        C.due("steps(24)", x.steps(24), 6);
        C.due("count(2)", x.count(2), 6);
        C.due("count(3)", x.count(3), 6);
        C.due("lost", x.ball(2), 1);
        stands(x, "lost", 3, DOWN);
        C.due("steps(1)", x.steps(1), Check.STATE);
    }

    private static void lastOfStepsIsTheLosing() {
        C.sentence("till it is LOST: the last of n, one ahead of it");
        for (int n = 5; n <= 7; n++) {
            BumperBalls x = Check.with("law 5;ball 3 5 2;");
            C.due("steps(" + n + ")", x.steps(n), Math.min(6, n));
            C.due("lost", x.ball(2), n >= 6 ? 1 : 0);
            stands(x, "behind " + n, 3, DOWN);
        }
    }

    private static BumperBalls withSteps(int steps) {
        BumperBalls x = Check.with(EMPTY);
        for (int gone = 0; gone < steps; gone += 24) {
            x.steps(Math.min(24, steps - gone));
        }
        C.due("steps gone", x.count(2), steps);
        return x;
    }

    private static void fullAtTheEnd() {
        C.sentence("FULL: more than 9999 might be gone: the last");
        BumperBalls x = withSteps(9998);
        C.due("steps(2)", x.steps(2), Check.FULL);
        C.due("steps(1)", x.steps(1), 1);
        C.due("count(2)", x.count(2), 9999);
        C.due("steps(1)", x.steps(1), Check.FULL);
        C.due("steps(24)", x.steps(24), Check.FULL);
        C.due("count(2)", x.count(2), 9999);
        C.due("count(3)", x.count(3), 24);
        C.due("what is foretold goes on", x.ahead(3, 0), 6);
        C.due("a nudge, too", x.nudge(), 3);
        for (int n = 1; n <= 24; n += 7) {
            BumperBalls y = withSteps(9999 - n);
            C.due("steps(" + n + ") to 9999", y.steps(n), n);
            BumperBalls z = withSteps(10000 - n);
            C.due("steps(" + n + ") to 10000", z.steps(n), Check.FULL);
            C.due("count(2)", z.count(2), 10000 - n);
        }
    }

    private static void fullByWhatMightBe() {
        C.sentence("FULL: more than 9999 might be gone, though it would be LOST ahead of that");
        BumperBalls x = withSteps(9990);
        x.put(0, DOWN);
        C.due("steps(10)", x.steps(10), Check.FULL);
        C.due("not lost", x.ball(2), 0);
        C.due("steps(9)", x.steps(9), 1);
        C.due("lost", x.ball(2), 1);
        C.due("count(2)", x.count(2), 9991);
        C.due("STATE is ahead of FULL", x.steps(24), Check.STATE);
    }

    private static void fullNoMore() {
        C.sentence("FULL: what is undone, restored, read anew makes room");
        BumperBalls x = withSteps(9975);
        x.image(0);
        C.due("steps(24)", x.steps(24), 24);
        C.due("steps(1)", x.steps(1), Check.FULL);
        x.undo();
        C.due("count(2)", x.count(2), 9998);
        C.due("steps(2)", x.steps(2), Check.FULL);
        C.due("steps(1)", x.steps(1), 1);
        x.restore(0);
        C.due("count(2)", x.count(2), 9975);
        C.due("steps(24)", x.steps(24), 24);
        C.due("steps(1)", x.steps(1), Check.FULL);
        Check.read(x, EMPTY);
        C.due("count(2)", x.count(2), 0);
        C.due("steps(24)", x.steps(24), 24);
    }

    /** A ball that strikes a pin by each step: to and fro between two bumpers side by side. */
    private static void struckByEachStep() {
        C.sentence("SCORE, how often it was STRUCK: by 9999 STEPS");
        BumperBalls x = Check.with("law 9;pin bumper 3 3 0 99;pin bumper 4 3 1 99;ball 3 2 0;");
        x.steps(1);
        x.nudge();
        x.nudge();
        x.nudge();
        for (int k = 0; k < 416; k++) {
            x.steps(24);
        }
        C.due("steps(14)", x.steps(14), 14);
        C.due("count(2)", x.count(2), 9999);
        C.due("ball(4)", x.ball(4), 99 * 9999);
        C.due("pin(0, 3)", x.pin(0, 3), 5000);
        C.due("pin(1, 3)", x.pin(1, 3), 4999);
        C.due("ball(5)", x.ball(5), 0);
        C.due("ahead(200, 2)", x.ahead(200, 2), 99 * (9999 + 200));
        C.due("ask(0, 0)", x.ask(0, 0), 99 + 5000);
        C.due("steps(1)", x.steps(1), Check.FULL);
        C.due("undo()", x.undo(), 23);
        C.due("ball(4)", x.ball(4), 99 * 9998);
        C.due("pin(0, 3)", x.pin(0, 3), 4999);
    }

    private static void actsOfSteps() {
        C.sentence("n STEPS, an ACT each");
        BumperBalls x = Check.with(EMPTY);
        x.steps(5);
        C.due("count(3)", x.count(3), 5);
        for (int k = 4; k >= 0; k--) {
            C.due("undo()", x.undo(), k);
            stands(x, "undone", k, RIGHT);
            C.due("count(2)", x.count(2), k);
        }
    }

    /** One act of each sort, by turns. */
    private static void act(BumperBalls x, int k) {
        switch (k % 4) {
            case 0 -> x.put(k % 7, DOWN);
            case 1 -> x.flip();
            case 2 -> x.nudge();
            default -> x.steps(1);
        }
    }

    private static void actsThatAreKept() {
        C.sentence("24 at most are kept, of more the oldest is forgotten");
        for (int more = 0; more <= 30; more++) {
            BumperBalls x = Check.with("law 20;ball 5 5 3;");
            int[][] stood = new int[25 + more][];
            for (int k = 0; k < 24 + more; k++) {
                stood[k] = new int[] {x.ball(0), x.ball(1)};
                act(x, k);
                C.due("count(3) behind " + (k + 1), x.count(3), Math.min(24, k + 1));
            }
            for (int k = 23; k >= 0; k--) {
                C.due("undo()", x.undo(), k);
                stands(x, "undone", stood[k + more][0], stood[k + more][1]);
            }
            C.due("no more", x.undo(), Check.STATE);
            stands(x, "no more", stood[more][0], stood[more][1]);
        }
        stepsForgetToo();
    }

    private static void stepsForgetToo() {
        BumperBalls x = Check.with(EMPTY);
        x.steps(24);
        x.steps(24);
        x.steps(1);
        C.due("count(3)", x.count(3), 24);
        for (int k = 23; k >= 0; k--) {
            C.due("undo()", x.undo(), k);
        }
        C.due("count(2)", x.count(2), 25);
        C.due("undo()", x.undo(), Check.STATE);
        x.steps(2);
        C.due("count(3)", x.count(3), 2);
    }

    private static void nothingBecomesAnother() {
        C.sentence("also such by which nothing becomes another");
        BumperBalls x = Check.with(EMPTY);
        for (int k = 1; k <= 30; k++) {
            C.due("put(0, 1)", x.put(0, 1), 1);
            C.due("count(3)", x.count(3), Math.min(24, k));
        }
        for (int k = 23; k >= 0; k--) {
            C.due("undo()", x.undo(), k);
            stands(x, "undone", 0, RIGHT);
        }
        C.due("undo()", x.undo(), Check.STATE);
    }

    private static void theLatestFirst() {
        C.sentence("each can be undone, the latest first");
        BumperBalls x = Check.with("law 6;ball 3 2 1;");
        x.put(2, DOWN);
        x.flip();
        x.steps(1);
        x.nudge();
        C.due("undo a nudge", x.undo(), 3);
        stands(x, "step", 9, UP);
        C.due("undo a step", x.undo(), 2);
        stands(x, "flip", 2, UP);
        C.due("undo a flip", x.undo(), 1);
        stands(x, "put", 2, DOWN);
        C.due("undo a put", x.undo(), 0);
        stands(x, "at first", 17, RIGHT);
        x.put(5, LEFT);
        C.due("an act behind one that is undone", x.count(3), 1);
        C.due("undo it", x.undo(), 0);
        stands(x, "at first", 17, RIGHT);
    }

    private static void eachCanBeUndone() {
        C.sentence("each can be undone: all that became another by it");
        BumperBalls x = Check.with("law 6;pin gate 3 2 1 5;pin lamp 4 4 2 9;ball 3 1 0;");
        x.steps(1);
        C.due("undo a step", x.undo(), 0);
        int[] first = {10, 0, 0, 0, 0, -1};
        for (int what = 0; what < 6; what++) {
            C.due("ball(" + what + ")", x.ball(what), first[what]);
        }
        C.due("struck", x.pin(0, 3), 0);
        C.due("shut", x.pin(0, 4), 0);
        C.due("count(2)", x.count(2), 0);
        x.nudge();
        x.nudge();
        x.steps(1);
        C.due("undo a step with shakes", x.undo(), 2);
        C.due("shakes", x.ball(3), 6);
        x.nudge();
        C.due("lost", x.ball(2), 1);
        x.put(0, 0);
        C.due("undo a put", x.undo(), 3);
        C.due("lost", x.ball(2), 1);
        C.due("shakes", x.ball(3), 9);
        C.due("undo a nudge", x.undo(), 2);
        C.due("not lost", x.ball(2), 0);
        C.due("shakes", x.ball(3), 6);
        stands(x, "undone", 10, DOWN);
        x.steps(1);
        x.steps(1);
        C.due("lost by a step", x.ball(2), 1);
        C.due("undo it", x.undo(), 3);
        C.due("not lost", x.ball(2), 0);
        C.due("shakes", x.ball(3), 5);
    }

    private static void undoneToNone() {
        C.sentence("undo: how many can be undone yet. STATE: none.");
        BumperBalls x = Check.with(EMPTY);
        C.due("no act", x.undo(), Check.STATE);
        x.nudge();
        C.due("one", x.undo(), 0);
        C.due("none", x.undo(), Check.STATE);
        x.steps(0);
        x.put(42, 0);
        x.flip();
        C.due("what was refused is none", x.undo(), Check.STATE);
    }

    private static void noTable() {
        C.sentence("STATE: no TABLE (ahead of BAD)");
        BumperBalls x = new BumperBalls();
        C.due("steps(1)", x.steps(1), Check.STATE);
        C.due("steps(0)", x.steps(0), Check.STATE);
        C.due("nudge()", x.nudge(), Check.STATE);
        C.due("flip()", x.flip(), Check.STATE);
        C.due("put(0, 0)", x.put(0, 0), Check.STATE);
        C.due("put(42, 4)", x.put(42, 4), Check.STATE);
        C.due("undo()", x.undo(), Check.STATE);
        C.due("ball(0)", x.ball(0), Check.STATE);
        C.due("ball(6)", x.ball(6), Check.STATE);
    }

    private static void ballTells() {
        C.sentence("Of the ball: 0 CELL, 1 WAY, 2 whether it is LOST (1, 0), 3 SHAKES, 4 SCORE, 5 LIT.");
        BumperBalls x = Check.with("law 2;pin lamp 3 2 6 50;ball 2 2 1;");
        int[][] stood = {{16, 1, 0, 0, 0, -1}, {17, 1, 0, 0, 50, 6}, {17, 2, 1, 3, 50, 6}};
        for (int when = 0; when < 3; when++) {
            for (int what = 0; what < 6; what++) {
                C.due(when + ": ball(" + what + ")", x.ball(what), stood[when][what]);
            }
            for (int bad : new int[] {-1, 6, MIN, MAX}) {
                C.due("ball(" + bad + ")", x.ball(bad), Check.BAD);
            }
            C.due("steps, or nudge", when == 0 ? x.steps(1) : x.nudge(), when == 0 ? 1 : when == 1 ? 3 : Check.STATE);
        }
    }

    private static void pinTells() {
        C.sentence("Of a PIN: 0 CELL, 1 LETTER, 2 PAYS, 3 how often it was STRUCK, 4 whether it is open (1, 0; other ones 0).");
        BumperBalls x = Check.with("law 9;pin gate 3 2 6 50;pin gate 3 4 5 40;pin lamp 1 0 4 30;pin bumper 6 5 0 0;"
            + "pin lefter 0 5 7 99;pin righter 5 3 1 1;ball 3 1 0;");
        for (int cell : new int[] {10, 34, 28, 26}) {
            x.put(cell, 0);
            x.steps(1);
        }
        x.put(0, 1);
        x.steps(1);
        int[][] want = {{17, 6, 50, 1, 1}, {31, 5, 40, 0, 0}, {1, 4, 30, 1, 0}, {41, 0, 0, 1, 0}, {35, 7, 99, 1, 0},
            {26, 1, 1, 0, 0}};
        for (int pin = 0; pin < 6; pin++) {
            for (int what = 0; what < 5; what++) {
                C.due("pin(" + pin + ", " + what + ")", x.pin(pin, what), want[pin][what]);
            }
            for (int bad : new int[] {-1, 5, MIN, MAX}) {
                C.due("pin(" + pin + ", " + bad + ")", x.pin(pin, bad), Check.BAD);
            }
        }
        for (int bad : new int[] {-1, 6, 7, MIN, MAX}) {
            C.due("pin(" + bad + ", 0)", x.pin(bad, 0), Check.BAD);
        }
    }
}
