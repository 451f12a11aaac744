import java.util.Arrays;

/** Promises 16 to 23, part 3 of the terms: what is foretold, what is heard, images. A test for each sentence. */
final class ForetoldTest {
    private static final Check C = new Check("foretold");
    private static final int NONE = Check.NONE, BAD = Check.BAD, STATE = Check.STATE;
    private static final int MIN = Check.MIN, MAX = Check.MAX;
    private static final int UP = 0, RIGHT = 1, DOWN = 2, LEFT = 3;
    private static final String EMPTY = "law 5;ball 0 0 1;";
    private static final String LAMP = "law 5;pin lamp 3 2 6 50;ball 3 0 0;";
    // The bounds of 500 and 400 are never reached: no table has longer walks than 163 and 160 (NOTES.md).
    private static final String LOST_BEHIND_163 = "law 9;pin righter 0 0 0 1;pin gate 5 0 1 1;pin gate 0 4 2 1;"
        + "pin lefter 5 4 3 1;pin lefter 0 5 4 1;pin lefter 5 5 5 1;ball 5 1 2;";
    private static final String LOST_BEHIND_162 = "law 5;pin lefter 6 0 0 1;pin righter 1 5 2 1;pin righter 1 4 1 1;"
        + "pin righter 6 5 0 1;pin gate 1 0 0 1;pin gate 6 4 2 1;ball 1 1 0;";
    private static final String AGAIN_BEHIND_160 = "law 5;pin righter 0 0 1 1;pin gate 3 4 2 1;pin righter 6 4 2 1;"
        + "pin righter 5 4 0 1;pin lefter 6 0 0 1;pin gate 5 0 2 1;ball 0 1 0;";
    // The gate turns the ball back once: it is lost in the twentieth step.
    private static final String LOST_BEHIND_20 = "law 1;pin gate 4 2 0 1;pin righter 5 2 1 1;ball 2 2 3;";
    // Struck by steps 1, 4, 15, 18, 29, 32, 43, 46, 57, 60 of a ball that comes from its left.
    private static final String LAMP_AT_A_SIDE = "law 1;pin lamp 5 2 0 1;ball 0 5 0;";

    public static void main(String[] args) {
        aheadByNone();
        aheadByTwoHundred();
        aheadBeyond();
        lostAhead();
        lostAlready();
        aheadTells();
        lastsTheFewest();
        lastsForGood();
        lastsLong();
        againBehindOneAtLeast();
        againWithItsWay();
        againWithLit();
        againWithGates();
        againButNotShakes();
        againNotWhenLost();
        againLong();
        lastsBeyond();
        richestOfOneToForty();
        richestTheLeast();
        richestPutNow();
        richestNotOnPins();
        richestTillLost();
        nudgedOneToTwenty();
        nudgedLetters();
        nudgedAheadOfEachStep();
        nudgedWhateverShakesAre();
        nudgedTheFewest();
        nudgedInOneOfThese();
        nudgedNone();
        keptOneToTwenty();
        keptTheFewest();
        keptAtTheLastStep();
        keptAmongGates();
        heardOneToTen();
        heardFromIOn();
        heardInSixtySteps();
        heardTheFirst();
        heardMore();
        heardLost();
        heardInHowManyWays();
        heardPutNow();
        heardNoLetter();
        imagesTwo();
        imageOfAll();
        imageStays();
        imageKeptAnew();
        restoreForgetsActs();
        restoreLeavesTheRest();
        C.end();
    }

    private static void ahead(BumperBalls x, int n, int cell, int way, int score, int lit) {
        C.due("ahead(" + n + ", 0)", x.ahead(n, 0), cell);
        C.due("ahead(" + n + ", 1)", x.ahead(n, 1), way);
        C.due("ahead(" + n + ", 2)", x.ahead(n, 2), score);
        C.due("ahead(" + n + ", 3)", x.ahead(n, 3), lit);
    }

    private static void aheadByNone() {
        C.sentence("AHEAD by n STEPS (0 ..): none");
        BumperBalls x = Check.with(LAMP);
        ahead(x, 0, 3, UP, 0, -1);
        x.steps(2);
        ahead(x, 0, 17, UP, 50, 6);
        x.nudge();
        ahead(x, 0, 17, RIGHT, 50, 6);
    }

    private static void aheadByTwoHundred() {
        C.sentence("AHEAD by n STEPS (.. to 200)");
        BumperBalls x = Check.with(EMPTY);
        ahead(x, 199, 3, RIGHT, 0, -1);
        ahead(x, 200, 4, RIGHT, 0, -1);
        for (int gone = 0; gone < 200; gone += 20) {
            x.steps(20);
        }
        ahead(x, 0, 4, RIGHT, 0, -1);
    }

    private static void aheadBeyond() {
        C.sentence("ahead: BAD; STATE: no TABLE (ahead of BAD).");
        BumperBalls x = new BumperBalls();
        C.due("ahead(0, 0)", x.ahead(0, 0), STATE);
        C.due("ahead(-1, 4)", x.ahead(-1, 4), STATE);
        Check.read(x, LAMP);
        for (int bad : new int[] {-1, 201, MIN, MAX}) {
            C.due("ahead(" + bad + ", 0)", x.ahead(bad, 0), BAD);
        }
        for (int bad : new int[] {-1, 4, MIN, MAX}) {
            C.due("ahead(1, " + bad + ")", x.ahead(1, bad), BAD);
        }
    }

    private static void lostAhead() {
        C.sentence("fewer, if it is LOST ahead; NONE: LOST");
        BumperBalls x = Check.with(LAMP);
        ahead(x, 11, 3, DOWN, 50, 6);
        ahead(x, 12, NONE, DOWN, 50, 6);
        ahead(x, 13, NONE, DOWN, 50, 6);
        ahead(x, 200, NONE, DOWN, 50, 6);
        BumperBalls y = Check.with(LOST_BEHIND_162);
        C.due("ahead(161, 0)", y.ahead(161, 0) == NONE ? 1 : 0, 0);
        C.due("ahead(162, 0)", y.ahead(162, 0), NONE);
    }

    private static void lostAlready() {
        C.sentence("ahead: of a LOST ball: NONE, and what stays");
        BumperBalls x = Check.with(LAMP);
        x.steps(24);
        C.due("lost", x.ball(2), 1);
        ahead(x, 0, NONE, DOWN, 50, 6);
        ahead(x, 1, NONE, DOWN, 50, 6);
        ahead(x, 200, NONE, DOWN, 50, 6);
        x.put(16, RIGHT);
        ahead(x, 1, 17, RIGHT, 50, 6);
        x.nudge();
        x.nudge();
        C.due("lost by a nudge", x.ball(2), 1);
        ahead(x, 5, NONE, LEFT, 50, 6);
    }

    private static void aheadTells() {
        C.sentence("AHEAD: CELL (what = 0), WAY (1), SCORE (2), LIT (3)");
        BumperBalls x = Check.with("law 5;pin bumper 1 2 0 9;pin righter 3 2 1 7;pin gate 3 0 2 5;ball 2 2 3;");
        ahead(x, 1, 15, RIGHT, 9, 0);
        ahead(x, 2, 16, RIGHT, 9, 0);
        ahead(x, 3, 17, DOWN, 16, 1);
        ahead(x, 4, 10, DOWN, 16, 1);
        ahead(x, 5, 3, UP, 21, 2);
        ahead(x, 7, 17, RIGHT, 28, 1);
        x.put(24, LEFT);
        ahead(x, 3, 21, LEFT, 0, -1);
        C.due("nothing is struck", x.pin(0, 3) + x.pin(1, 3) + x.pin(2, 3), 0);
        C.due("nothing is gone", x.count(2), 0);
        C.due("the put alone can be undone", x.undo(), 0);
        BumperBalls gate = Check.with("law 5;pin gate 3 3 2 5;ball 3 2 0;");
        ahead(gate, 2, 17, DOWN, 5, 2);
        gate.steps(1);
        gate.put(17, UP);
        ahead(gate, 2, 31, UP, 5, 2);
    }

    private static void lastsTheFewest() {
        C.sentence("LASTS: in how many STEPS it is LOST (the fewest)");
        BumperBalls x = Check.with(LAMP);
        for (int lasts = 12; lasts >= 1; lasts--) {
            C.due("lasts(0)", x.lasts(0), lasts);
            x.steps(1);
        }
        C.due("lost", x.ball(2), 1);
        for (int cell = 0; cell < 42; cell++) {
            BumperBalls y = Check.with("law 5;ball " + cell % 7 + " " + cell / 7 + " 2;");
            C.due("lasts(0) from " + cell, y.lasts(0), cell / 7 + 1);
        }
    }

    private static void lastsForGood() {
        C.sentence("LASTS: NONE.");
        C.due("to and fro", Check.with(EMPTY).lasts(0), NONE);
        BumperBalls x = Check.with("law 5;pin bumper 3 0 0 1;ball 3 4 2;");
        C.due("a bumper keeps it", x.lasts(0), NONE);
        BumperBalls y = Check.with("law 5;pin gate 3 0 0 1;ball 3 4 2;");
        C.due("a gate does once", y.lasts(0), 4 + 5 + 1 + 5 + 1);
        y.steps(4);
        C.due("open", y.pin(0, 4), 1);
        y.put(31, DOWN);
        C.due("an open one does not", y.lasts(0), 4 + 1);
    }

    private static void lastsLong() {
        C.sentence("LASTS: 500 at most");
        BumperBalls x = Check.with(LOST_BEHIND_162);
        C.due("lasts(0)", x.lasts(0), 162);
        C.due("steps", x.steps(24), 24);
        C.due("lasts(0)", x.lasts(0), 138);
        C.due("kept(20)", x.kept(20), 0);
        BumperBalls longest = Check.with(LOST_BEHIND_163);
        longest.steps(1);
        longest.put(12, DOWN);
        longest.steps(1);
        longest.nudge();
        longest.nudge();
        C.due("in a gate, up", longest.ball(0) * 4 + longest.ball(1), 20);
        C.due("lasts(0) of the longest", longest.lasts(0), 163);
        C.due("ahead(162, 0)", longest.ahead(162, 0) == NONE ? 1 : 0, 0);
        C.due("ahead(163, 0)", longest.ahead(163, 0), NONE);
    }

    private static void againBehindOneAtLeast() {
        C.sentence("AGAIN: behind how many STEPS (1 ..)");
        BumperBalls x = Check.with(EMPTY);
        C.due("to and fro", x.lasts(1), 14);
        x.steps(5);
        C.due("to and fro", x.lasts(1), 14);
        BumperBalls two = Check.with("law 5;pin bumper 3 3 0 1;pin bumper 4 3 0 1;ball 2 3 0;");
        two.put(23, RIGHT);
        two.steps(1);
        C.due("from a bumper to a side", two.lasts(1), 7);
        BumperBalls between = Check.with("law 9;pin bumper 3 3 0 1;pin bumper 4 3 0 1;ball 3 2 0;");
        between.steps(1);
        between.nudge();
        between.nudge();
        between.nudge();
        C.due("from one bumper to the next", between.lasts(1), 2);
    }

    private static void againWithItsWay() {
        C.sentence("AGAIN: the ball is in its CELL with its WAY");
        BumperBalls x = Check.with(EMPTY);
        x.put(3, RIGHT);
        C.due("in its cell behind 7, the way is another", x.ahead(7, 0), 3);
        C.due("ahead(7, 1)", x.ahead(7, 1), LEFT);
        C.due("lasts(1)", x.lasts(1), 14);
        x.put(6, RIGHT);
        C.due("in its cell behind 1", x.ahead(1, 0), 6);
        C.due("lasts(1)", x.lasts(1), 14);
    }

    private static void againWithLit() {
        C.sentence("AGAIN: LIT is as now");
        BumperBalls x = Check.with("law 5;pin lamp 3 0 0 5;ball 0 0 1;");
        C.due("in its cell behind 14", x.ahead(14, 0), 0);
        C.due("no letter is lit never again", x.lasts(1), NONE);
        x.steps(3);
        C.due("the letter is lit", x.lasts(1), 14);
        BumperBalls two = Check.with("law 5;pin gate 2 3 0 5;pin gate 5 3 1 5;ball 0 3 1;");
        two.steps(24);
        two.put(24, RIGHT);
        C.due("gates and letters", two.lasts(1), stepsTillAgain(two));
    }

    /** Behind how many steps all is alike, step by step on the object itself. */
    private static int stepsTillAgain(BumperBalls x) {
        int[] now = {x.ball(0), x.ball(1), x.ball(5), x.pin(0, 4), x.pin(1, 4)};
        for (int n = 1; n <= 80; n++) {
            x.steps(1);
            int[] then = {x.ball(0), x.ball(1), x.ball(5), x.pin(0, 4), x.pin(1, 4)};
            if (Arrays.equals(now, then)) {
                return n;
            }
        }
        return NONE;
    }

    private static void againWithGates() {
        C.sentence("AGAIN: gates are as now");
        BumperBalls x = Check.with("law 5;pin gate 3 0 0 5;ball 0 0 1;");
        x.steps(3);
        C.due("open", x.pin(0, 4), 1);
        C.due("ball(1)", x.ball(1), LEFT);
        C.due("in its cell, with its way behind 21", x.ahead(21, 0) == 3 && x.ahead(21, 1) == LEFT ? 1 : 0, 1);
        C.due("the gate is shut then", x.lasts(1), 28);
        C.due("step by step", stepsTillAgain(x), 28);
    }

    private static void againButNotShakes() {
        C.sentence("AGAIN: SHAKES, SCORE, STEPS may be others");
        BumperBalls x = Check.with("law 9;pin bumper 1 2 0 9;pin bumper 3 2 1 7;ball 2 2 1;");
        x.steps(1);
        x.steps(1);
        C.due("score", x.ball(4), 7);
        C.due("lasts(1)", x.lasts(1), 4);
        for (int k = 0; k < 4; k++) {
            x.nudge();
            x.steps(0);
        }
        x.undo();
        x.undo();
        x.undo();
        x.undo();
        x.put(16, LEFT);
        C.due("lasts(1)", x.lasts(1), 4);
        x.put(0, UP);
        x.nudge();
        C.due("with shakes", x.ball(3), 3);
        C.due("lasts(1)", x.lasts(1), 14);
    }

    private static void againNotWhenLost() {
        C.sentence("AGAIN: NONE.");
        C.due("it is lost ahead", Check.with("law 5;ball 3 3 0;").lasts(1), NONE);
        C.due("it is lost by the first step", Check.with("law 5;ball 3 0 2;").lasts(1), NONE);
        BumperBalls x = Check.with("law 5;pin lamp 3 4 0 1;ball 3 3 0;");
        C.due("it is where it was, then lost", x.ahead(5, 0), 24);
        C.due("lasts(1)", x.lasts(1), NONE);
    }

    private static void againLong() {
        C.sentence("AGAIN: behind how many STEPS (.. to 400)");
        BumperBalls longest = Check.with(AGAIN_BEHIND_160);
        for (int k = 0; k < 20; k++) {
            longest.steps(24);
        }
        C.due("lasts(1)", longest.lasts(1), 160);
        C.due("lasts(0)", longest.lasts(0), NONE);
    }

    private static void lastsBeyond() {
        C.sentence("lasts: BAD; STATE: no TABLE (ahead of BAD), it is LOST.");
        BumperBalls x = new BumperBalls();
        C.due("lasts(0)", x.lasts(0), STATE);
        C.due("lasts(2)", x.lasts(2), STATE);
        Check.read(x, "law 5;ball 0 0 2;");
        for (int bad : new int[] {-1, 2, MIN, MAX}) {
            C.due("lasts(" + bad + ")", x.lasts(bad), BAD);
        }
        x.steps(1);
        C.due("lasts(0)", x.lasts(0), STATE);
        C.due("lasts(1)", x.lasts(1), STATE);
        C.due("lasts(2)", x.lasts(2), BAD);
    }

    private static void richest(BumperBalls x, int n, int how, int more) {
        C.due("richest(" + n + ", 0)", x.richest(n, 0), how);
        C.due("richest(" + n + ", 1)", x.richest(n, 1), more);
    }

    private static void richestOfOneToForty() {
        C.sentence("RICHEST of n STEPS (1 to 40)");
        // Between two bumpers a ball is paid by step 1, and each third one.
        BumperBalls x = Check.with("law 1;pin bumper 1 2 0 9;pin bumper 4 2 1 7;ball 0 0 0;");
        richest(x, 1, 4 * 8, 9);
        for (int n = 4; n <= 40; n++) {
            int times = (n + 2) / 3;
            C.due("richest(" + n + ", 1)", x.richest(n, 1), 16 * (times / 2) + 9 * (times % 2));
        }
        richest(x, 39, 4 * 16 + 3, 7 * 9 + 6 * 7);
        richest(x, 40, 4 * 16 + 3, 7 * 9 + 7 * 7);
        for (int bad : new int[] {0, -1, 41, MIN, MAX}) {
            C.due("richest(" + bad + ", 0)", x.richest(bad, 0), BAD);
        }
        for (int bad : new int[] {-1, 2, MIN, MAX}) {
            C.due("richest(1, " + bad + ")", x.richest(1, bad), BAD);
        }
    }

    private static void richestTheLeast() {
        C.sentence("RICHEST: of several the least");
        richest(Check.with(LAMP), 1, 4 * 10, 50);
        richest(Check.with(LAMP), 2, 4 * 3, 50);
        richest(Check.with(LAMP), 40, 4 * 3, 50);
        richest(Check.with("law 1;ball 3 3 0;"), 1, 0, 0);
        richest(Check.with("law 1;ball 3 3 0;"), 40, 0, 0);
        richest(Check.with("law 1;pin lamp 0 0 0 0;ball 3 3 0;"), 5, 4, 0);
        richest(Check.with("law 1;pin lamp 0 0 0 0;pin lamp 1 0 1 0;ball 3 3 0;"), 40, 8, 0);
        richest(Check.with("law 1;pin lamp 0 0 0 9;ball 3 3 0;"), 1, 4 + LEFT, 9);
        richest(Check.with("law 1;pin lamp 6 5 0 9;ball 3 3 0;"), 1, 4 * 34, 9);
        richest(Check.with("law 1;pin lamp 6 5 0 9;pin lamp 6 4 0 8;ball 3 3 0;"), 1, 4 * 40 + 1, 9);
    }

    private static void richestPutNow() {
        C.sentence("RICHEST: how to PUT a ball now, so that SCORE is most; how much SCORE is more");
        BumperBalls x = Check.with(LAMP);
        x.steps(2);
        C.due("score", x.ball(4), 50);
        C.due("its letter is lit: it pays nothing", x.richest(40, 1), 0);
        richest(x, 40, 0, 0);
        x.steps(24);
        C.due("lost", x.ball(2), 1);
        richest(x, 40, 0, 0);
        BumperBalls gate = Check.with("law 9;pin gate 5 5 0 1;pin bumper 6 4 1 0;pin lamp 6 5 2 90;ball 0 0 1;");
        richest(gate, 2, 4 * 26, 1);
        gate.put(39, RIGHT);
        gate.steps(1);
        C.due("open", gate.pin(0, 4), 1);
        richest(gate, 1, 0, 0);
        richest(gate, 2, 4 * 39 + RIGHT, 90);
        C.due("no put is kept", gate.count(3), 2);
    }

    private static void richestNotOnPins() {
        C.sentence("RICHEST: a ball is PUT in a CELL without a pin");
        BumperBalls x = Check.with("law 1;pin lamp 3 3 0 50;pin lamp 2 3 1 0;pin lamp 4 3 2 0;pin lamp 3 2 3 0;pin lamp 3 4 4 0;"
            + "ball 0 0 0;");
        richest(x, 1, 0, 0);
        richest(x, 2, 4 * 10, 50);
    }

    private static void richestTillLost() {
        C.sentence("RICHEST: behind them: a LOST ball brings no more");
        BumperBalls x = Check.with("law 1;pin lamp 3 0 0 50;pin lamp 3 1 1 40;ball 0 0 0;");
        richest(x, 1, 4 * 2 + RIGHT, 50);
        richest(x, 2, 4 * 17 + DOWN, 90);
        richest(x, 7, 4 * 17 + DOWN, 90);
        richest(x, 40, 4 * 17 + UP, 90);
        C.due("no table", new BumperBalls().richest(1, 0), STATE);
        C.due("no table, ahead of BAD", new BumperBalls().richest(0, 2), STATE);
    }

    private static void nudgedOneToTwenty() {
        C.sentence("NUDGED, n 1 to 20");
        BumperBalls x = Check.with("law 1;pin gate 5 2 0 1;pin lamp 6 2 1 1;ball 2 2 3;");
        C.due("nudged(1, 19)", x.nudged(1, 19), 3);
        C.due("nudged(1, 20): through the gate, which was shut", x.nudged(1, 20), 0);
        C.due("nudged(1, 1)", x.nudged(1, 1), NONE);
        for (int bad : new int[] {0, -1, 21, MIN, MAX}) {
            C.due("nudged(1, " + bad + ")", x.nudged(1, bad), BAD);
        }
        C.due("nudged(0, 8)", x.nudged(0, 8), 0);
        x.steps(8);
        C.due("open", x.pin(0, 4), 1);
        x.put(16, RIGHT);
        C.due("through the open gate: not in three", x.nudged(1, 3), NONE);
        C.due("in four", x.nudged(1, 4), 0);
    }

    private static void nudgedLetters() {
        C.sentence("NUDGED for a LETTER (0 to 7)");
        for (int letter = 0; letter < 8; letter++) {
            BumperBalls x = Check.with("law 1;pin lamp 3 3 " + letter + " 0;ball 3 2 0;");
            for (int other = 0; other < 8; other++) {
                C.due("nudged(" + other + ", 1)", x.nudged(other, 1), other == letter ? 0 : NONE);
            }
            for (int bad : new int[] {-1, 8, MIN, MAX}) {
                C.due("nudged(" + bad + ", 1)", x.nudged(bad, 1), BAD);
            }
        }
    }

    private static void nudgedAheadOfEachStep() {
        C.sentence("a NUDGE may come ahead of each STEP, one at most");
        int[] cells = {24, 18, 10, 16};
        for (int way = 0; way < 4; way++) {
            for (int side = 0; side < 4; side++) {
                BumperBalls x = Check.with("law 1;pin lamp " + cells[side] % 7 + " " + cells[side] / 7 + " 5 0;ball 3 2 " + way + ";");
                int turns = (side - way + 4) % 4;
                C.due("way " + way + ", side " + side, x.nudged(5, 1), turns <= 1 ? turns : NONE);
            }
        }
        BumperBalls last = Check.with("law 1;pin lamp 4 3 5 0;ball 3 2 0;");
        C.due("ahead of the last: not in one", last.nudged(5, 1), NONE);
        C.due("ahead of the last: in two", last.nudged(5, 2), 1);
        BumperBalls round = Check.with("law 1;pin lamp 2 2 5 0;ball 3 2 0;");
        C.due("up, right, down, left: not in four", round.nudged(5, 4), NONE);
        C.due("in five", round.nudged(5, 5), 3);
        C.due("up and back, left: not in seven", round.nudged(5, 7), 3);
        C.due("in eight", round.nudged(5, 8), 1);
    }

    private static void nudgedWhateverShakesAre() {
        C.sentence("whatever SHAKES are");
        BumperBalls x = Check.with("law 3;pin lamp 2 2 5 0;ball 3 2 3;");
        C.due("nudge()", x.nudge(), 3);
        C.due("up, right, down, left by a tilt of 3", x.nudged(5, 5), 3);
        C.due("shakes", x.ball(3), 3);
        BumperBalls y = Check.with("law 1;pin lamp 4 2 5 0;ball 3 2 0;");
        C.due("by a tilt of 1", y.nudged(5, 1), 1);
    }

    private static void nudgedTheFewest() {
        C.sentence("the fewest by which a pin with that LETTER is STRUCK");
        // Near it by one nudge, in nine steps; by none in more.
        BumperBalls x = Check.with("law 1;pin lamp 3 2 6 50;ball 3 0 1;");
        C.due("nudged(6, 8)", x.nudged(6, 8), NONE);
        C.due("nudged(6, 9)", x.nudged(6, 9), 1);
        C.due("nudged(6, 20)", x.nudged(6, 20), 1);
        BumperBalls far = Check.with("law 1;pin lamp 0 3 6 1;pin lamp 3 4 6 1;ball 2 3 1;");
        C.due("nudged(6, 1)", far.nudged(6, 1), NONE);
        C.due("by turns", far.nudged(6, 10), 1);
        C.due("there and back", far.nudged(6, 11), 0);
        BumperBalls two = Check.with("law 1;pin righter 5 5 1 1;ball 4 5 2;");
        C.due("in nine", two.nudged(1, 9), 3);
        C.due("to the other side and back: in ten", two.nudged(1, 10), 1);
        BumperBalls down = Check.with("law 5;pin lamp 0 5 6 50;ball 2 0 2;");
        C.due("left, up: in six", down.nudged(6, 6), NONE);
        C.due("left, up: in seven", down.nudged(6, 7), 2);
    }

    private static void nudgedInOneOfThese() {
        C.sentence("STRUCK in one of these");
        BumperBalls x = Check.with("law 5;pin lamp 3 3 6 50;ball 3 2 0;");
        for (int n = 1; n <= 20; n++) {
            C.due("nudged(6, " + n + ")", x.nudged(6, n), 0);
        }
        x.steps(1);
        x.put(17, UP);
        C.due("its letter is lit", x.ball(5), 6);
        C.due("it is struck all the same", x.nudged(6, 1), 0);
        BumperBalls lost = Check.with("law 5;pin lamp 3 0 6 50;ball 3 1 2;");
        C.due("lost behind it", lost.nudged(6, 20), 0);
        BumperBalls second = Check.with("law 5;pin lamp 3 3 2 0;pin lamp 3 4 6 0;ball 3 2 0;");
        C.due("the second in one", second.nudged(6, 1), NONE);
        C.due("the second in two", second.nudged(6, 2), 0);
    }

    private static void nudgedNone() {
        C.sentence("nudged: NONE. STATE: no TABLE (ahead of BAD), it is LOST.");
        BumperBalls x = Check.with("law 5;ball 0 0 2;");
        C.due("no pin", x.nudged(0, 20), NONE);
        x.steps(1);
        C.due("lost", x.nudged(0, 1), STATE);
        C.due("BAD ahead of it", x.nudged(0, 0), BAD);
        C.due("BAD ahead of it", x.nudged(8, 1), BAD);
        C.due("no table", new BumperBalls().nudged(0, 1), STATE);
        C.due("no table ahead of BAD", new BumperBalls().nudged(8, 0), STATE);
    }

    private static void keptOneToTwenty() {
        C.sentence("KEPT, n 1 to 20");
        BumperBalls x = Check.with(LOST_BEHIND_20);
        C.due("lasts(0)", x.lasts(0), 20);
        for (int n = 1; n <= 19; n++) {
            C.due("kept(" + n + ")", x.kept(n), 0);
        }
        C.due("kept(20)", x.kept(20), 1);
        for (int bad : new int[] {0, -1, 21, MIN, MAX}) {
            C.due("kept(" + bad + ")", x.kept(bad), BAD);
        }
        BumperBalls later = Check.with(LOST_BEHIND_20.replace("ball 2 2", "ball 3 2"));
        C.due("lasts(0)", later.lasts(0), 21);
        C.due("kept(20)", later.kept(20), 0);
    }

    private static void keptTheFewest() {
        C.sentence("KEPT: the fewest by which the ball is not LOST in these");
        // The lefter turns it down as often as it comes.
        BumperBalls x = Check.with("law 1;pin lefter 0 0 0 1;ball 1 0 2;");
        C.due("kept(1)", x.kept(1), 1);
        for (int n = 2; n <= 15; n++) {
            C.due("kept(" + n + ")", x.kept(n), 2);
        }
        C.due("kept(16)", x.kept(16), 3);
        C.due("kept(20)", x.kept(20), 3);
        C.due("nothing has changed", x.ball(1), DOWN);
        BumperBalls once = Check.with("law 1;pin righter 6 0 1 1;ball 2 2 2;");
        C.due("to and fro behind one nudge", once.kept(12), 1);
        C.due("to and fro behind one nudge", once.kept(20), 1);
        BumperBalls shaken = Check.with("law 3;ball 3 0 1;");
        shaken.nudge();
        C.due("whatever shakes are", shaken.kept(20), 1);
    }

    private static void keptAtTheLastStep() {
        C.sentence("KEPT: LOST by the last of these");
        for (int cell = 0; cell < 42; cell++) {
            for (int way = 0; way < 4; way++) {
                BumperBalls x = Check.with("law 1;ball " + cell % 7 + " " + cell / 7 + " " + way + ";");
                int lasts = way == UP ? 12 - cell / 7 : way == DOWN ? cell / 7 + 1 : 99;
                for (int n = 1; n <= 20; n++) {
                    C.due("kept(" + n + ") from " + cell + ", " + way, x.kept(n), n < lasts ? 0 : 1);
                }
            }
        }
        BumperBalls x = Check.with("law 5;ball 0 0 2;");
        x.steps(1);
        C.due("lost", x.kept(1), STATE);
        C.due("BAD ahead of it", x.kept(21), BAD);
        C.due("no table", new BumperBalls().kept(1), STATE);
        C.due("no table ahead of BAD", new BumperBalls().kept(0), STATE);
    }

    /** Six gates, all open: by them a ball in the last cell can stand in the most places. */
    private static void keptAmongGates() {
        C.sentence("KEPT: gates as now");
        BumperBalls x = Check.with("law 20;pin gate 0 5 0 1;pin gate 1 5 0 1;pin gate 2 5 0 1;pin gate 3 5 0 1;pin gate 4 5 0 1;"
            + "pin gate 5 5 0 1;ball 6 0 0;");
        for (int pin = 0; pin < 6; pin++) {
            x.put(28 + pin, UP);
            x.steps(1);
            C.due("open", x.pin(pin, 4), 1);
        }
        x.put(41, LEFT);
        C.due("through all of them and back", x.kept(20), 0);
        C.due("nudged(0, 1)", x.nudged(0, 1), 0);
        C.due("open yet", x.pin(5, 4), 1);
        x.put(34, UP);
        C.due("lost in seven", x.kept(7), 0);
        C.due("lost in eight", x.kept(8), 1);
    }

    private static void heard(BumperBalls x, int row, int i, int n, int ways, int least) {
        String call = row + ", " + i + ", " + n;
        C.due("heard(" + call + ", 0)", x.heard(row, i, n, 0), ways);
        C.due("heard(" + call + ", 1)", x.heard(row, i, n, 1), least);
    }

    private static void heardOneToTen() {
        C.sentence("HEARD, n LETTERS (1 to 10)");
        BumperBalls x = Check.with(LAMP_AT_A_SIDE);
        x.row(0, 0, 11);
        heard(x, 0, 0, 1, 20, 20);
        heard(x, 0, 0, 9, 6, 61);
        heard(x, 0, 0, 10, 1, 73);
        heard(x, 0, 1, 10, 1, 73);
        for (int bad : new int[] {0, -1, 11, MIN, MAX}) {
            C.due("heard(0, 0, " + bad + ", 0)", x.heard(0, 0, bad, 0), BAD);
        }
        for (int bad : new int[] {-1, 2, MIN, MAX}) {
            C.due("heard(0, 0, 1, " + bad + ")", x.heard(0, 0, 1, bad), BAD);
        }
        for (int bad : new int[] {-1, 8, MIN, MAX}) {
            C.due("heard(" + bad + ", 0, 1, 0)", x.heard(bad, 0, 1, 0), BAD);
        }
        x.set(0, 9, 1);
        heard(x, 0, 0, 10, 0, NONE);
        heard(x, 0, 0, 9, 6, 61);
    }

    private static void heardFromIOn() {
        C.sentence("n LETTERS of a ROW from i on; PLACE");
        for (int lane = 0; lane < 3; lane++) {
            BumperBalls x = Check.with("law 5;pin lamp 1 5 0 1;pin bumper 3 5 7 1;ball 0 0 1;");
            Check.fill(x, 4, lane, new int[] {9, 0, 7, 0, 0, -1});
            heard(x, 4, 1, 3, 2, 141);
            heard(x, 4, 2, 3, 1, 149);
            heard(x, 4, 2, 1, 12, 12);
            C.due("the last", x.heard(4, 4, 1, 1), 4);
            for (int place : new int[] {-1, 6, 7, 40, MIN, MAX}) {
                C.due("heard(4, " + place + ", 1, 0)", x.heard(4, place, 1, 0), Check.PLACE);
                C.due("status()", x.status(), 2);
            }
            C.due("one beyond the end", x.heard(4, 3, 4, 0), Check.PLACE);
            C.due("to the end", x.heard(4, 3, 3, 0), BAD);
            C.due("a row that is missing", x.heard(3, 0, 1, 0), Check.NULL);
            C.due("status()", x.status(), 1);
            x.row(5, lane, 0);
            C.due("an empty row", x.heard(5, 0, 1, 0), Check.PLACE);
        }
    }

    private static void heardInSixtySteps() {
        C.sentence("HEARD in 60 STEPS");
        BumperBalls x = Check.with(LAMP_AT_A_SIDE);
        x.row(0, 0, 10);
        x.put(18, RIGHT);
        for (int k = 0; k < 59; k++) {
            x.steps(1);
        }
        C.due("struck by 59", x.pin(0, 3), 9);
        x.steps(1);
        C.due("struck by 60", x.pin(0, 3), 10);
        x.put(17, RIGHT);
        for (int k = 0; k < 60; k++) {
            x.steps(1);
        }
        C.due("struck by 60, a cell behind it", x.pin(0, 3), 19);
        heard(x, 0, 0, 10, 1, 73);
        // Each 14 steps: from 4 cells behind it the fifth time by step 60.
        BumperBalls side = Check.with("law 5;pin lamp 0 2 5 1;ball 0 0 1;");
        Check.fill(side, 0, 5, 5, 5, 5, 5, 5);
        heard(side, 0, 0, 4, 12, 61);
        heard(side, 0, 0, 5, 4, 63);
        heard(side, 0, 0, 6, 0, NONE);
    }

    private static void heardTheFirst() {
        C.sentence("LETTERS of the first pins that a ball has STRUCK, one behind the other");
        BumperBalls x = Check.with("law 5;pin lamp 3 1 1 0;pin lamp 3 2 2 0;pin lamp 3 4 3 0;ball 0 0 1;");
        Check.fill(x, 0, 1, 2, 3, 3, 2, 1);
        C.due("1 2 3 3 2 1 up the column", x.heard(0, 0, 6, 1), 12);
        heard(x, 0, 0, 3, 1, 12);
        C.due("2 first: from the sides alone", x.heard(0, 1, 1, 1), 57);
        C.due("2 3: none goes up from the second", x.heard(0, 1, 2, 0), 0);
        Check.fill(x, 1, 1, 3);
        C.due("1 3: 2 is between", x.heard(1, 0, 2, 0), 0);
        Check.fill(x, 2, 3, 2, 1);
        heard(x, 2, 0, 3, 2, 4 * 38);
    }

    private static void heardMore() {
        C.sentence("it can have STRUCK more");
        BumperBalls x = Check.with("law 5;pin lamp 3 1 1 0;pin lamp 3 2 2 0;pin lamp 3 4 3 0;ball 0 0 1;");
        Check.fill(x, 0, 1, 2, 3, 3, 2, 1);
        for (int n = 2; n <= 6; n++) {
            heard(x, 0, 0, n, 1, 12);
        }
        C.due("1 alone: from below, from both sides", x.heard(0, 0, 1, 0), 1 + 12);
    }

    private static void heardLost() {
        C.sentence("HEARD: a ball that is LOST has STRUCK no more");
        BumperBalls x = Check.with("law 5;pin lamp 3 0 4 0;ball 0 5 1;");
        Check.fill(x, 0, 4, 4);
        heard(x, 0, 0, 1, 22, 1);
        C.due("from above it is lost behind it", x.heard(0, 0, 2, 0), 12);
        x.put(10, DOWN);
        x.steps(2);
        C.due("lost", x.ball(2), 1);
        heard(x, 0, 0, 1, 22, 1);
        Check.read(x, "law 5;pin lamp 3 0 4 0;pin lamp 0 0 4 0;pin lamp 6 0 4 0;ball 0 5 1;");
        C.due("lost ahead of it", x.heard(0, 0, 2, 1), 5);
    }

    private static void heardInHowManyWays() {
        C.sentence("in how many ways it can have been PUT (CELL, WAY); the least; NONE");
        BumperBalls x = Check.with("law 5;pin lamp 1 5 0 1;pin bumper 3 5 7 1;ball 0 0 1;");
        Check.fill(x, 5, 7, 7, 0);
        heard(x, 5, 0, 1, 5 + 1 + 6, 12);
        heard(x, 5, 0, 2, 6, 157);
        heard(x, 5, 0, 3, 0, NONE);
        C.due("status()", x.status(), 0);
        BumperBalls none = Check.with(EMPTY);
        none.row(0, 0, 1);
        heard(none, 0, 0, 1, 0, NONE);
        BumperBalls first = Check.with("law 5;pin lamp 0 1 0 1;pin bumper 3 5 7 1;ball 0 0 1;");
        first.row(0, 0, 1);
        C.due("the least of all: cell 0, up", first.heard(0, 0, 1, 1), 0);
    }

    private static void heardPutNow() {
        C.sentence("HEARD: a ball that is PUT now");
        BumperBalls x = Check.with("law 9;pin gate 3 3 1 0;pin lamp 3 5 2 0;ball 3 2 0;");
        Check.fill(x, 0, 1, 2);
        heard(x, 0, 0, 2, 1, 4 * 31 + DOWN);
        x.steps(1);
        C.due("it is open", x.pin(0, 4), 1);
        heard(x, 0, 0, 2, 3, 12);
        C.due("open yet", x.pin(0, 4), 1);
        C.due("a pin whose letter is lit is heard", x.ball(5), 1);
        C.due("no put is kept", x.count(3), 1);
        Check.fill(x, 1, 2, 1);
        C.due("2 1: from above", x.heard(1, 0, 2, 1), 4 * 31);
    }

    private static void heardNoLetter() {
        C.sentence("then BAD: an ITEM that is no LETTER");
        BumperBalls x = Check.with("law 5;pin lamp 3 3 7 0;pin lamp 3 1 0 0;ball 0 0 1;");
        x.row(0, 2, 3);
        for (int letter : new int[] {0, 7}) {
            x.set(0, 1, letter);
            C.due("letter " + letter, x.heard(0, 1, 1, 0) > 0 ? 1 : 0, 1);
        }
        for (int bad : new int[] {-1, 8, 9, 256, MIN, MAX}) {
            x.set(0, 1, bad);
            C.due("item " + bad, x.heard(0, 1, 1, 0), BAD);
            C.due("item " + bad + ", the first", x.heard(0, 1, 2, 1), BAD);
            C.due("item " + bad + ", the last", x.heard(0, 0, 2, 1), BAD);
            C.due("item " + bad + " is not told", x.heard(0, 0, 1, 1), 12);
            C.due("item " + bad + " is not told", x.heard(0, 2, 1, 1), 12);
        }
    }

    private static void imagesTwo() {
        C.sentence("An IMAGE (0, 1) is kept of the TABLE: 1. BAD; STATE: no TABLE. restore: STATE: none was kept.");
        BumperBalls x = new BumperBalls();
        for (int bad : new int[] {-1, 2, MIN, MAX}) {
            C.due("image(" + bad + ")", x.image(bad), BAD);
            C.due("restore(" + bad + ")", x.restore(bad), BAD);
        }
        for (int k = 0; k < 2; k++) {
            C.due("image(" + k + "), no table", x.image(k), STATE);
            C.due("restore(" + k + "), none", x.restore(k), STATE);
        }
        Check.read(x, LAMP);
        C.due("restore(0), none", x.restore(0), STATE);
        C.due("image(1)", x.image(1), 1);
        C.due("restore(0), none yet", x.restore(0), STATE);
        C.due("restore(1)", x.restore(1), 1);
        x.steps(1);
        C.due("image(0)", x.image(0), 1);
        x.steps(1);
        C.due("restore(1)", x.restore(1), 1);
        C.due("count(2)", x.count(2), 0);
        C.due("restore(0)", x.restore(0), 1);
        C.due("count(2)", x.count(2), 1);
        C.due("image(2)", x.image(2), BAD);
        C.due("restore(2)", x.restore(2), BAD);
    }

    private static void imageOfAll() {
        C.sentence("The TABLE is as an IMAGE kept it");
        BumperBalls x = Check.with("law 3;pin gate 3 2 6 50;pin lamp 1 1 1 1;ball 3 0 0;");
        x.steps(2);
        x.nudge();
        x.nudge();
        C.due("lost", x.ball(2), 1);
        x.image(0);
        Check.read(x, "law 9;pin bumper 5 5 5 5;pin lefter 4 4 4 4;pin righter 2 2 2 2;ball 0 0 1;");
        x.steps(5);
        C.due("restore(0)", x.restore(0), 1);
        int[] ball = {17, 0, 1, 6, 50, 6};
        int[] count = {0, 2, 2, 0, 3, 0};
        int[][] pins = {{17, 6, 50, 1, 1}, {8, 1, 1, 0, 0}};
        for (int what = 0; what < 6; what++) {
            C.due("ball(" + what + ")", x.ball(what), ball[what]);
            C.due("count(" + what + ")", x.count(what), count[what]);
        }
        for (int what = 0; what < 5; what++) {
            C.due("pin(0, " + what + ")", x.pin(0, what), pins[0][what]);
            C.due("pin(1, " + what + ")", x.pin(1, what), pins[1][what]);
        }
        C.due("a pin that is not of it", x.pin(2, 0), BAD);
        C.due("kind(0)", x.kind(0), 5);
        C.due("kind(1)", x.kind(1), 4);
        C.due("a cell with a pin", x.put(8, 0), BAD);
        C.due("a cell where one was", x.put(40, 0), 160);
        C.due("nudge() by its tilt", x.nudge(), 3);
        C.due("not lost", x.ball(2), 0);
    }

    private static void imageStays() {
        C.sentence("An IMAGE is kept: what is played does not change it");
        BumperBalls x = Check.with("law 3;pin gate 3 2 6 50;ball 3 0 0;");
        x.steps(2);
        x.image(0);
        x.image(1);
        for (int again = 0; again < 3; again++) {
            x.put(24, DOWN);
            x.steps(1);
            C.due("struck", x.pin(0, 3), 2);
            C.due("shut", x.pin(0, 4), 0);
            C.due("restore(0)", x.restore(0), 1);
            C.due("struck", x.pin(0, 3), 1);
            C.due("open", x.pin(0, 4), 1);
            C.due("ball(0)", x.ball(0), 17);
            C.due("steps", x.count(2), 2);
        }
        Check.read(x, LAMP);
        C.due("restore(1)", x.restore(1), 1);
        C.due("count(2)", x.count(2), 2);
    }

    private static void imageKeptAnew() {
        C.sentence("An IMAGE is kept in place of the one before");
        BumperBalls x = Check.with(EMPTY);
        x.image(0);
        x.steps(3);
        x.image(0);
        x.steps(1);
        x.restore(0);
        C.due("ball(0)", x.ball(0), 3);
        x.put(9, 0);
        C.due("image(1)", x.image(1), 1);
        x.restore(0);
        C.due("ball(0)", x.ball(0), 3);
        x.restore(1);
        C.due("ball(0)", x.ball(0), 9);
    }

    private static void restoreForgetsActs() {
        C.sentence("no ACT can be undone then");
        BumperBalls x = Check.with(EMPTY);
        x.steps(7);
        C.due("image(0)", x.image(0), 1);
        C.due("an image forgets none", x.count(3), 7);
        C.due("undo()", x.undo(), 6);
        x.restore(0);
        C.due("count(3)", x.count(3), 0);
        C.due("undo()", x.undo(), STATE);
        C.due("ball(0)", x.ball(0), 6);
        x.steps(1);
        C.due("undo()", x.undo(), 0);
        C.due("undo()", x.undo(), STATE);
    }

    private static void restoreLeavesTheRest() {
        C.sentence("The TABLE is as an IMAGE kept it: rows, tape, trace, fault, status are not of it");
        BumperBalls x = Check.with(LAMP);
        x.image(0);
        x.row(5, 1, 4);
        Check.read(x, "law 0;");
        Check.feed(x, "law");
        x.ask(0, 0);
        x.drop(6);
        x.restore(0);
        C.due("count(0)", x.count(0), 1);
        C.due("count(5)", x.count(5), 3);
        C.due("fault()", x.fault(), 2);
        C.due("trace(0)", x.trace(0), 13);
        C.due("status()", x.status(), 1);
        C.due("drop(5)", x.drop(5), 4);
    }
}
