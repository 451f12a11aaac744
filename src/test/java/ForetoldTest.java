/** Promises 16 to 23: what is foretold, what is heard, images. */
final class ForetoldTest {
    private static final Check C = new Check("foretold");
    private static final int MIN = Integer.MIN_VALUE, MAX = Integer.MAX_VALUE;
    private static final String LAMP = "law 5;pin lamp 3 2 6 50;ball 3 0 0;";
    // No table is known by which a ball is lost, or comes round, much later than by these.
    private static final String LOST_BEHIND_162 = "law 5;pin lefter 6 0 0 1;pin righter 1 5 2 1;pin righter 1 4 1 1;"
        + "pin righter 6 5 0 1;pin gate 1 0 0 1;pin gate 6 4 2 1;ball 1 1 0;";
    private static final String AGAIN_BEHIND_160 = "law 5;pin righter 0 0 1 1;pin gate 3 4 2 1;pin righter 6 4 2 1;"
        + "pin righter 5 4 0 1;pin lefter 6 0 0 1;pin gate 5 0 2 1;ball 0 1 0;";

    public static void main(String[] args) {
        promise16Ahead();
        promise16Refused();
        promise17Lasts();
        promise17Again();
        promise17Refused();
        promise18Richest();
        promise18Refused();
        promise19Nudged();
        promise19Refused();
        promise20Kept();
        promise21Heard();
        promise21SixtySteps();
        promise21Refused();
        promise22Image();
        promise23Restore();
        nothingChanges();
        C.end();
    }

    private static void ahead(BumperBalls x, int n, int cell, int way, int score, int lit) {
        C.due("ahead(" + n + ", 0)", x.ahead(n, 0), cell);
        C.due("ahead(" + n + ", 1)", x.ahead(n, 1), way);
        C.due("ahead(" + n + ", 2)", x.ahead(n, 2), score);
        C.due("ahead(" + n + ", 3)", x.ahead(n, 3), lit);
    }

    private static void promise16Ahead() {
        BumperBalls x = Check.with(LAMP);
        ahead(x, 0, 3, 0, 0, -1);
        ahead(x, 1, 10, 0, 0, -1);
        ahead(x, 2, 17, 0, 50, 6);
        ahead(x, 5, 38, 0, 50, 6);
        ahead(x, 6, 38, 2, 50, 6);
        ahead(x, 9, 17, 2, 50, 6);
        ahead(x, 11, 3, 2, 50, 6);
        ahead(x, 12, Check.NONE, 2, 50, 6);
        ahead(x, 200, Check.NONE, 2, 50, 6);
        x.steps(2);
        ahead(x, 0, 17, 0, 50, 6);
        ahead(x, 9, 3, 2, 50, 6);
        x.steps(24);
        ahead(x, 0, Check.NONE, 2, 50, 6);
        ahead(x, 200, Check.NONE, 2, 50, 6);
        BumperBalls y = Check.with("law 5;ball 0 0 1;");
        ahead(y, 199, 3, 1, 0, -1);
        ahead(y, 200, 4, 1, 0, -1);
    }

    private static void promise16Refused() {
        BumperBalls x = new BumperBalls();
        C.due("no table", x.ahead(0, 0), Check.STATE);
        C.due("no table, ahead of BAD", x.ahead(-1, 9), Check.STATE);
        Check.read(x, LAMP);
        for (int bad : new int[] {-1, 201, MIN, MAX}) {
            C.due("ahead(" + bad + ", 0)", x.ahead(bad, 0), Check.BAD);
        }
        for (int bad : new int[] {-1, 4, MIN, MAX}) {
            C.due("ahead(1, " + bad + ")", x.ahead(1, bad), Check.BAD);
        }
    }

    private static void promise17Lasts() {
        BumperBalls x = Check.with(LAMP);
        C.due("till it is lost", x.lasts(0), 12);
        x.steps(11);
        C.due("one more", x.lasts(0), 1);
        C.due("not again: it is lost", x.lasts(1), Check.NONE);
        C.due("never", Check.with("law 5;ball 0 0 1;").lasts(0), Check.NONE);
        C.due("long", Check.with(LOST_BEHIND_162).lasts(0), 162);
    }

    private static void promise17Again() {
        BumperBalls x = Check.with("law 5;ball 0 0 1;");
        C.due("there and back", x.lasts(1), 14);
        BumperBalls lamp = Check.with("law 5;pin lamp 3 0 0 5;ball 0 0 1;");
        C.due("the letter is lit for good", lamp.lasts(1), Check.NONE);
        lamp.steps(3);
        C.due("with the letter lit", lamp.lasts(1), 14);
        lamp.nudge();
        lamp.undo();
        lamp.put(0, 1);
        C.due("shakes, score do not matter", lamp.lasts(1), 14);
        BumperBalls gate = Check.with("law 5;pin gate 3 0 0 5;ball 0 0 1;");
        C.due("first the letter", gate.lasts(1), Check.NONE);
        gate.steps(3);
        C.due("cell and way behind 21", gate.ahead(21, 0) == 3 && gate.ahead(21, 1) == 3 ? 1 : 0, 1);
        C.due("the gate, too, behind 28", gate.lasts(1), 28);
        BumperBalls up = Check.with("law 5;ball 3 3 0;");
        C.due("it is lost ahead", up.lasts(1), Check.NONE);
        BumperBalls longest = Check.with(AGAIN_BEHIND_160);
        for (int k = 0; k < 20; k++) {
            longest.steps(24);
        }
        C.due("long", longest.lasts(1), 160);
    }

    private static void promise17Refused() {
        BumperBalls x = new BumperBalls();
        C.due("no table", x.lasts(0), Check.STATE);
        C.due("no table, ahead of BAD", x.lasts(2), Check.STATE);
        Check.read(x, "law 5;ball 0 0 2;");
        for (int bad : new int[] {-1, 2, MIN, MAX}) {
            C.due("lasts(" + bad + ")", x.lasts(bad), Check.BAD);
        }
        x.steps(1);
        C.due("lost", x.lasts(0), Check.STATE);
        C.due("lost", x.lasts(1), Check.STATE);
        C.due("BAD ahead of lost", x.lasts(2), Check.BAD);
    }

    private static void richest(BumperBalls x, int n, int how, int more) {
        C.due("richest(" + n + ", 0)", x.richest(n, 0), how);
        C.due("richest(" + n + ", 1)", x.richest(n, 1), more);
    }

    private static void promise18Richest() {
        BumperBalls x = Check.with(LAMP);
        richest(x, 1, 40, 50);
        richest(x, 2, 12, 50);
        richest(x, 40, 12, 50);
        x.steps(2);
        richest(x, 2, 0, 0);
        x.steps(24);
        C.due("lost", x.ball(2), 1);
        richest(x, 40, 0, 0);
        richest(Check.with("law 5;pin lamp 0 0 0 9;ball 3 3 0;"), 5, 7, 9);
        richest(Check.with("law 5;pin lamp 0 0 0 0;ball 3 3 0;"), 5, 4, 0);
        // Two letters in turn: the ball between two bumpers is paid each second step.
        BumperBalls y = Check.with("law 5;pin bumper 1 2 0 9;pin bumper 3 2 1 7;ball 0 0 0;");
        richest(y, 1, 8 * 4, 9);
        richest(y, 3, 16 * 4 + 1, 16);
        richest(y, 40, 16 * 4 + 1, 10 * 16);
        richest(y, 39, 16 * 4 + 1, 10 * 16);
        richest(y, 38, 16 * 4 + 3, 10 * 9 + 9 * 7);
        y.put(15 - 7, 0);
        y.steps(1);
        richest(y, 1, 10 * 4, 7);
        richest(y, 3, 16 * 4 + 1, 16);
    }

    private static void promise18Refused() {
        BumperBalls x = new BumperBalls();
        C.due("no table", x.richest(1, 0), Check.STATE);
        C.due("no table, ahead of BAD", x.richest(0, 2), Check.STATE);
        Check.read(x, LAMP);
        for (int bad : new int[] {0, -1, 41, MIN, MAX}) {
            C.due("richest(" + bad + ", 0)", x.richest(bad, 0), Check.BAD);
        }
        for (int bad : new int[] {-1, 2, MIN, MAX}) {
            C.due("richest(1, " + bad + ")", x.richest(1, bad), Check.BAD);
        }
    }

    private static void promise19Nudged() {
        BumperBalls x = Check.with(LAMP);
        C.due("too far", x.nudged(6, 1), Check.NONE);
        C.due("none is needed", x.nudged(6, 2), 0);
        C.due("no such pin", x.nudged(5, 20), Check.NONE);
        // Whatever shakes are: by a law of 1 each nudge would lose the ball.
        BumperBalls y = Check.with("law 1;pin lamp 3 2 6 50;ball 3 0 1;");
        C.due("there, back and up: not in eight", y.nudged(6, 8), Check.NONE);
        C.due("in nine", y.nudged(6, 9), 1);
        C.due("in twenty", y.nudged(6, 20), 1);
        BumperBalls side = Check.with("law 5;pin lamp 4 2 6 50;ball 3 2 0;");
        C.due("a nudge ahead of the first step", side.nudged(6, 1), 1);
        BumperBalls back = Check.with("law 5;pin lamp 2 2 6 50;ball 3 2 0;");
        C.due("one at most ahead of each step", back.nudged(6, 2), Check.NONE);
        BumperBalls away = Check.with("law 5;pin lamp 3 3 6 50;ball 3 2 0;");
        C.due("one that is near", away.nudged(6, 1), 0);
        C.due("lit already", lit(away), 0);
        BumperBalls down = Check.with("law 5;pin lamp 0 5 6 50;ball 2 0 2;");
        C.due("a ball that would be lost", down.nudged(6, 6), Check.NONE);
        C.due("left, up", down.nudged(6, 7), 2);
    }

    private static int lit(BumperBalls x) {
        x.steps(1);
        x.put(17, 0);
        return x.nudged(6, 1);
    }

    private static void promise19Refused() {
        BumperBalls x = new BumperBalls();
        C.due("no table", x.nudged(0, 1), Check.STATE);
        C.due("no table, ahead of BAD", x.nudged(8, 0), Check.STATE);
        Check.read(x, "law 5;ball 0 0 2;");
        for (int bad : new int[] {-1, 8, MIN, MAX}) {
            C.due("nudged(" + bad + ", 1)", x.nudged(bad, 1), Check.BAD);
        }
        for (int bad : new int[] {0, -1, 21, MIN, MAX}) {
            C.due("nudged(0, " + bad + ")", x.nudged(0, bad), Check.BAD);
        }
        x.steps(1);
        C.due("lost", x.nudged(0, 1), Check.STATE);
        C.due("BAD ahead of lost", x.nudged(0, 0), Check.BAD);
    }

    private static void promise20Kept() {
        BumperBalls x = Check.with("law 1;ball 3 1 0;");
        C.due("ten", x.kept(10), 0);
        C.due("eleven", x.kept(11), 1);
        C.due("twenty", x.kept(20), 1);
        BumperBalls y = Check.with("law 1;ball 3 0 2;");
        C.due("one", y.kept(1), 1);
        C.due("twenty", y.kept(20), 1);
        BumperBalls none = new BumperBalls();
        C.due("no table", none.kept(1), Check.STATE);
        C.due("no table, ahead of BAD", none.kept(0), Check.STATE);
        for (int bad : new int[] {0, -1, 21, MIN, MAX}) {
            C.due("kept(" + bad + ")", y.kept(bad), Check.BAD);
        }
        y.steps(1);
        C.due("lost", y.kept(1), Check.STATE);
        C.due("BAD ahead of lost", y.kept(21), Check.BAD);
    }

    private static void promise21Heard() {
        BumperBalls x = Check.with("law 5;pin lamp 1 5 0 1;pin bumper 3 5 7 1;ball 0 0 1;");
        Check.fill(x, 4, 9, 0, 7, 0, 0);
        C.due("0 7 0", x.heard(4, 1, 3, 0), 2);
        C.due("0 7 0, the least", x.heard(4, 1, 3, 1), 141);
        C.due("7 0 0", x.heard(4, 2, 3, 0), 1);
        C.due("7 0 0, the least", x.heard(4, 2, 3, 1), 4 * 37 + 1);
        C.due("status", x.status(), 0);
        Check.fill(x, 5, 7, 7, 0);
        C.due("7 7: from the right side", x.heard(5, 0, 2, 0), 6);
        C.due("7 7, the least", x.heard(5, 0, 2, 1), 4 * 39 + 1);
        C.due("7 7 0", x.heard(5, 0, 3, 0), 0);
        C.due("7 7 0, the least", x.heard(5, 0, 3, 1), Check.NONE);
        C.due("7: from below, from both sides", x.heard(5, 0, 1, 0), 5 + 1 + 6);
        C.due("7, the least", x.heard(5, 0, 1, 1), 12);
        x.put(0, 2);
        x.steps(1);
        C.due("a lost ball does not matter", x.heard(4, 1, 3, 1), 141);
    }

    /** A lamp at a side is struck each 14 steps: from 4 cells behind it the fifth time by step 60. */
    private static void promise21SixtySteps() {
        BumperBalls x = Check.with("law 5;pin lamp 0 2 5 1;ball 0 0 1;");
        Check.fill(x, 0, 5, 5, 5, 5, 5, 5, 5, 5, 5, 5);
        C.due("five times", x.heard(0, 0, 5, 0), 4);
        C.due("five times, the least", x.heard(0, 0, 5, 1), 63);
        C.due("four times", x.heard(0, 0, 4, 0), 12);
        C.due("six times", x.heard(0, 0, 6, 0), 0);
        C.due("ten times", x.heard(0, 0, 10, 1), Check.NONE);
    }

    private static void promise21Refused() {
        BumperBalls x = new BumperBalls();
        C.due("no table", x.heard(0, 0, 1, 0), Check.STATE);
        C.due("no table, ahead of BAD", x.heard(8, 0, 0, 9), Check.STATE);
        Check.read(x, LAMP);
        for (int bad : new int[] {-1, 8, MIN, MAX}) {
            C.due("row " + bad, x.heard(bad, 0, 1, 0), Check.BAD);
        }
        for (int bad : new int[] {0, -1, 11, MIN, MAX}) {
            C.due("n " + bad, x.heard(0, 0, bad, 0), Check.BAD);
        }
        for (int bad : new int[] {-1, 2, MIN, MAX}) {
            C.due("what " + bad, x.heard(0, 0, 1, bad), Check.BAD);
        }
        C.due("status", x.status(), 0);
        C.due("missing", x.heard(0, -1, 1, 0), Check.NULL);
        C.due("status", x.status(), 1);
        Check.fill(x, 0, 6, 8, 6, -1, 6);
        for (int bad : new int[] {-1, 5, 40, MIN, MAX}) {
            C.due("place " + bad, x.heard(0, bad, 1, 0), Check.PLACE);
        }
        C.due("beyond the end", x.heard(0, 4, 2, 0), Check.PLACE);
        C.due("PLACE ahead of an item", x.heard(0, 3, 3, 0), Check.PLACE);
        C.due("status", x.status(), 2);
        C.due("8 is no letter", x.heard(0, 0, 2, 0), Check.BAD);
        C.due("8 is no letter", x.heard(0, 1, 1, 1), Check.BAD);
        C.due("-1 is no letter", x.heard(0, 2, 2, 0), Check.BAD);
        C.due("status stays", x.status(), 2);
        C.due("only those that are told", x.heard(0, 0, 1, 1), 12);
        C.due("status", x.status(), 0);
    }

    private static void promise22Image() {
        BumperBalls x = new BumperBalls();
        for (int bad : new int[] {-1, 2, MIN, MAX}) {
            C.due("image(" + bad + ")", x.image(bad), Check.BAD);
            C.due("restore(" + bad + ")", x.restore(bad), Check.BAD);
        }
        C.due("no table", x.image(0), Check.STATE);
        C.due("none was kept", x.restore(0), Check.STATE);
        Check.read(x, LAMP);
        x.steps(3);
        C.due("image(0)", x.image(0), 1);
        C.due("acts can still be undone", x.count(3), 3);
        C.due("the other was not kept", x.restore(1), Check.STATE);
        x.steps(1);
        C.due("image(1)", x.image(1), 1);
        x.restore(0);
        C.due("steps of 0", x.count(2), 3);
        x.restore(1);
        C.due("steps of 1", x.count(2), 4);
        C.due("image(0) anew", x.image(0), 1);
        x.steps(1);
        x.restore(0);
        C.due("steps of the new 0", x.count(2), 4);
    }

    private static void promise23Restore() {
        BumperBalls x = Check.with("law 3;pin gate 3 2 6 50;pin lamp 1 1 1 1;ball 3 0 0;");
        x.steps(2);
        x.nudge();
        x.nudge();
        C.due("lost", x.ball(2), 1);
        x.image(0);
        x.row(0, 0, 3);
        Check.read(x, "law 9;ball 0 0 1;");
        x.steps(5);
        Check.feed(x, "law");
        for (int again = 0; again < 2; again++) {
            C.due("restore(0)", x.restore(0), 1);
            int[] want = {17, 0, 1, 6, 50, 6};
            for (int what = 0; what < want.length; what++) {
                C.due("ball(" + what + ")", x.ball(what), want[what]);
            }
            C.due("pins", x.count(1), 2);
            C.due("steps", x.count(2), 2);
            C.due("acts", x.count(3), 0);
            C.due("tilt", x.count(4), 3);
            C.due("rows stay", x.count(0), 1);
            C.due("the tape stays", x.count(5), 3);
            C.due("undo()", x.undo(), Check.STATE);
            C.due("struck", x.pin(0, 3), 1);
            C.due("open", x.pin(0, 4), 1);
            C.due("kinds", x.kind(0) * 10 + x.kind(1), 54);
            C.due("letter", x.pin(1, 1), 1);
            C.due("pays", x.pin(1, 2), 1);
            C.due("a cell with a pin", x.put(8, 0), Check.BAD);
            // The image is not what is played on.
            x.put(31, 2);
            x.steps(2);
            C.due("struck", x.pin(0, 3), 2);
        }
    }

    private static void nothingChanges() {
        BumperBalls x = Check.with("law 9;pin gate 3 2 6 50;pin lamp 1 1 1 1;ball 3 0 0;");
        x.steps(1);
        x.nudge();
        x.undo();
        Check.fill(x, 0, 6);
        int[] before = all(x);
        x.ahead(50, 0);
        x.lasts(0);
        x.lasts(1);
        x.richest(40, 0);
        x.nudged(6, 20);
        x.kept(20);
        x.heard(0, 0, 1, 0);
        int[] behind = all(x);
        for (int k = 0; k < before.length; k++) {
            C.due("number " + k + " behind all that was foretold", behind[k], before[k]);
        }
    }

    private static int[] all(BumperBalls x) {
        int[] all = new int[22];
        int k = 0;
        for (int what = 0; what < 6; what++) {
            all[k++] = x.ball(what);
        }
        for (int what = 0; what < 6; what++) {
            all[k++] = x.count(what);
        }
        for (int what = 0; what < 10; what++) {
            all[k++] = x.pin(what / 5, what % 5);
        }
        return all;
    }
}
