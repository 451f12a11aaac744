import java.util.function.ToIntFunction;

/**
 * Refusals and findings of all the calls, the first one where two fit at once; that they change nothing but
 * status(), nor does what is foretold, what is asked.
 */
final class RefusedTest {
    private static final Check C = new Check("refused");
    private static final int MIN = Check.MIN, MAX = Check.MAX;
    private static final int BAD = Check.BAD, STATE = Check.STATE, FULL = Check.FULL;
    private static final int NULL = Check.NULL, PLACE = Check.PLACE, KIND = Check.KIND, SIZE = Check.SIZE, STORE = Check.STORE;
    private static final Twins[] ROWS = {Twins.BARE, Twins.PLAYED};
    private static final Twins[] TABLES = {Twins.PLAYED, Twins.LOST};

    public static void main(String[] args) {
        row();
        set();
        copy();
        drop();
        feed();
        stepsAhead();
        stepsFull();
        nudgeFlip();
        put();
        undo();
        ballPin();
        ahead();
        lasts();
        richest();
        nudged();
        kept();
        heardAhead();
        heardFound();
        images();
        kindAsAsk();
        traceCount();
        foretold();
        asked();
        C.end();
    }

    /** A refusal leaves the status, a finding is told by it. */
    private static void refused(String call, ToIntFunction<BumperBalls> asked, int want, Twins... kinds) {
        boolean isFinding = want <= NULL && want >= STORE;
        for (Twins kind : kinds) {
            kind.unchanged(C, call, asked, want, isFinding ? NULL - want + 1 : Twins.STATUS);
        }
    }

    private static void row() {
        C.sentence("row: BAD: ROW, LANE, n above 40; SIZE.");
        for (int bad : new int[] {-1, 8, MIN, MAX}) {
            refused("row(" + bad + ", 0, 1)", x -> x.row(bad, 0, 1), BAD, ROWS);
            refused("row(" + bad + ", 0, -1), BAD ahead of SIZE", x -> x.row(bad, 0, -1), BAD, ROWS);
        }
        for (int bad : new int[] {-1, 3, MIN, MAX}) {
            refused("row(0, " + bad + ", 1)", x -> x.row(0, bad, 1), BAD, ROWS);
            refused("row(0, " + bad + ", -1), BAD ahead of SIZE", x -> x.row(0, bad, -1), BAD, ROWS);
        }
        refused("row(0, 0, 41)", x -> x.row(0, 0, 41), BAD, ROWS);
        refused("row(3, 0, 41)", x -> x.row(3, 0, 41), BAD, ROWS);
        refused("row(0, 0, -1)", x -> x.row(0, 0, -1), SIZE, ROWS);
        refused("row(3, 0, -1)", x -> x.row(3, 0, -1), SIZE, ROWS);
        refused("row(7, 2, MIN)", x -> x.row(7, 2, MIN), SIZE, ROWS);
    }

    private static void set() {
        C.sentence("set: BAD: ROW; NULL; PLACE.");
        for (int bad : new int[] {-1, 8}) {
            refused("set(" + bad + ", 0, 1)", x -> x.set(bad, 0, 1), BAD, ROWS);
            refused("set(" + bad + ", -1, 1), BAD ahead of PLACE", x -> x.set(bad, -1, 1), BAD, ROWS);
        }
        refused("set(3, 0, 1)", x -> x.set(3, 0, 1), NULL, ROWS);
        refused("set(3, -1, 1), NULL ahead of PLACE", x -> x.set(3, -1, 1), NULL, ROWS);
        for (int place : new int[] {-1, 5, 6, MIN, MAX}) {
            refused("set(0, " + place + ", 1)", x -> x.set(0, place, 1), PLACE, ROWS);
        }
        refused("set(4, 0, 1), an empty row", x -> x.set(4, 0, 1), PLACE, ROWS);
        refused("set(7, 40, 1), a whole row", x -> x.set(7, 40, 1), PLACE, ROWS);
    }

    private static void copy() {
        C.sentence("copy: BAD: ROWS; NULL; STORE; PLACE (i, j, n below 0, or beyond an end).");
        for (int bad : new int[] {-1, 8}) {
            refused("copy(" + bad + ", 0, 0, 0, 1)", x -> x.copy(bad, 0, 0, 0, 1), BAD, ROWS);
            refused("copy(0, 0, " + bad + ", 0, 1)", x -> x.copy(0, 0, bad, 0, 1), BAD, ROWS);
            refused("copy(" + bad + ", 0, 3, 0, 1), BAD ahead of NULL", x -> x.copy(bad, 0, 3, 0, 1), BAD, ROWS);
            refused("copy(3, 0, " + bad + ", 0, 1), BAD ahead of NULL", x -> x.copy(3, 0, bad, 0, 1), BAD, ROWS);
            refused("copy(0, -1, " + bad + ", 0, 1), BAD ahead of PLACE", x -> x.copy(0, -1, bad, 0, 1), BAD, ROWS);
        }
        refused("copy(3, 0, 0, 0, 1)", x -> x.copy(3, 0, 0, 0, 1), NULL, ROWS);
        refused("copy(0, 0, 3, 0, 1)", x -> x.copy(0, 0, 3, 0, 1), NULL, ROWS);
        refused("copy(3, 0, 3, 0, 0)", x -> x.copy(3, 0, 3, 0, 0), NULL, ROWS);
        refused("copy(1, 0, 3, 0, 1), NULL ahead of STORE", x -> x.copy(1, 0, 3, 0, 1), NULL, ROWS);
        refused("copy(3, 0, 2, 0, 1), NULL ahead of STORE", x -> x.copy(3, 0, 2, 0, 1), NULL, ROWS);
        refused("copy(0, -1, 3, 0, 1), NULL ahead of PLACE", x -> x.copy(0, -1, 3, 0, 1), NULL, ROWS);
        refused("copy(3, 0, 0, 5, 1), NULL ahead of PLACE", x -> x.copy(3, 0, 0, 5, 1), NULL, ROWS);
        refused("copy(0, 0, 1, 0, 1)", x -> x.copy(0, 0, 1, 0, 1), STORE, ROWS);
        refused("copy(2, 0, 1, 0, 0)", x -> x.copy(2, 0, 1, 0, 0), STORE, ROWS);
        refused("copy(0, -1, 1, 0, 1), STORE ahead of PLACE", x -> x.copy(0, -1, 1, 0, 1), STORE, ROWS);
        refused("copy(0, 0, 1, 2, 1), STORE ahead of PLACE", x -> x.copy(0, 0, 1, 2, 1), STORE, ROWS);
        refused("copy(0, 0, 1, 0, -1), STORE ahead of PLACE", x -> x.copy(0, 0, 1, 0, -1), STORE, ROWS);
        refused("copy(0, -1, 7, 0, 1)", x -> x.copy(0, -1, 7, 0, 1), PLACE, ROWS);
        refused("copy(0, 0, 7, -1, 1)", x -> x.copy(0, 0, 7, -1, 1), PLACE, ROWS);
        refused("copy(0, 0, 7, 0, -1)", x -> x.copy(0, 0, 7, 0, -1), PLACE, ROWS);
        refused("copy(0, 1, 7, 0, 5)", x -> x.copy(0, 1, 7, 0, 5), PLACE, ROWS);
        refused("copy(0, 0, 7, 36, 5)", x -> x.copy(0, 0, 7, 36, 5), PLACE, ROWS);
        refused("copy(0, 0, 0, 1, 5)", x -> x.copy(0, 0, 0, 1, 5), PLACE, ROWS);
        refused("copy(0, 1, 7, 1, MAX)", x -> x.copy(0, 1, 7, 1, MAX), PLACE, ROWS);
    }

    private static void drop() {
        C.sentence("drop: BAD; NULL.");
        for (int bad : new int[] {-1, 8, MIN, MAX}) {
            refused("drop(" + bad + ")", x -> x.drop(bad), BAD, ROWS);
        }
        refused("drop(3)", x -> x.drop(3), NULL, ROWS);
        refused("drop(6)", x -> x.drop(6), NULL, ROWS);
    }

    private static void feed() {
        C.sentence("feed: BAD: n; FULL: none comes.");
        for (int bad : new int[] {0, -1, 9, MIN, MAX}) {
            refused("feed(0, " + bad + ")", x -> x.feed(0, bad), BAD, Twins.BARE, Twins.PLAYED);
            refused("feed(0, " + bad + "), BAD ahead of FULL", x -> x.feed(0, bad), BAD, Twins.FED);
        }
        for (int n = 1; n <= 8; n++) {
            int bytes = n;
            refused("feed(-1, " + n + ")", x -> x.feed(-1, bytes), FULL, Twins.FED);
        }
    }

    private static void stepsAhead() {
        C.sentence("steps: BAD; STATE: no TABLE (ahead of BAD), it is LOST");
        for (int bad : new int[] {0, -1, 25, MIN, MAX}) {
            refused("steps(" + bad + "), no table ahead of BAD", x -> x.steps(bad), STATE, Twins.BARE);
            refused("steps(" + bad + ")", x -> x.steps(bad), BAD, Twins.PLAYED);
            refused("steps(" + bad + "), BAD ahead of lost", x -> x.steps(bad), BAD, Twins.LOST);
        }
        for (int n : new int[] {1, 24}) {
            refused("steps(" + n + ")", x -> x.steps(n), STATE, Twins.BARE, Twins.LOST);
        }
    }

    private static void stepsFull() {
        C.sentence("steps: FULL: more than 9999 might be gone.");
        refused("steps(1)", x -> x.steps(1), FULL, Twins.LATE);
        refused("steps(24)", x -> x.steps(24), FULL, Twins.LATE);
        refused("steps(0), BAD ahead of FULL", x -> x.steps(0), BAD, Twins.LATE);
        refused("steps(25), BAD ahead of FULL", x -> x.steps(25), BAD, Twins.LATE);
        refused("steps(1), lost ahead of FULL", x -> x.steps(1), STATE, Twins.LATE_LOST);
        refused("steps(25), BAD ahead of both", x -> x.steps(25), BAD, Twins.LATE_LOST);
    }

    private static void nudgeFlip() {
        C.sentence("nudge, flip: STATE: no TABLE, it is LOST, it cannot be.");
        refused("nudge()", x -> x.nudge(), STATE, Twins.BARE, Twins.LOST, Twins.LATE_LOST);
        refused("flip()", x -> x.flip(), STATE, Twins.BARE, Twins.PLAYED, Twins.RESTORED, Twins.LOST, Twins.LATE_LOST);
    }

    private static void put() {
        C.sentence("put: BAD: a CELL with a pin, too; STATE: no TABLE (ahead of BAD).");
        for (int bad : new int[] {-1, 42, MIN, MAX}) {
            refused("put(" + bad + ", 0)", x -> x.put(bad, 0), BAD, TABLES);
            refused("put(" + bad + ", 0), no table ahead of BAD", x -> x.put(bad, 0), STATE, Twins.BARE);
        }
        for (int bad : new int[] {-1, 4, MIN, MAX}) {
            refused("put(0, " + bad + ")", x -> x.put(0, bad), BAD, TABLES);
            refused("put(0, " + bad + "), no table ahead of BAD", x -> x.put(0, bad), STATE, Twins.BARE);
        }
        for (int pin : new int[] {22, 33, 31, 18, 14}) {
            refused("put(" + pin + ", 0), a pin", x -> x.put(pin, 0), BAD, TABLES);
        }
        refused("put(0, 0)", x -> x.put(0, 0), STATE, Twins.BARE);
    }

    private static void undo() {
        C.sentence("undo: STATE: none.");
        refused("undo()", x -> x.undo(), STATE, Twins.BARE, Twins.RESTORED);
    }

    private static void ballPin() {
        C.sentence("ball: BAD; STATE: no TABLE (ahead of BAD). pin: BAD.");
        for (int bad : new int[] {-1, 6, MIN, MAX}) {
            refused("ball(" + bad + ")", x -> x.ball(bad), BAD, TABLES);
            refused("ball(" + bad + "), no table ahead of BAD", x -> x.ball(bad), STATE, Twins.BARE);
        }
        for (int bad : new int[] {-1, 5, 6, MIN, MAX}) {
            refused("pin(" + bad + ", 0)", x -> x.pin(bad, 0), BAD, TABLES);
            refused("pin(0, " + bad + ")", x -> x.pin(0, bad), BAD, TABLES);
        }
        refused("ball(0)", x -> x.ball(0), STATE, Twins.BARE);
        refused("pin(0, 0)", x -> x.pin(0, 0), BAD, Twins.BARE);
    }

    private static void ahead() {
        C.sentence("ahead: BAD; STATE: no TABLE (ahead of BAD).");
        for (int bad : new int[] {-1, 201, MIN, MAX}) {
            refused("ahead(" + bad + ", 0)", x -> x.ahead(bad, 0), BAD, TABLES);
            refused("ahead(" + bad + ", 0), no table ahead of BAD", x -> x.ahead(bad, 0), STATE, Twins.BARE);
        }
        for (int bad : new int[] {-1, 4, MIN, MAX}) {
            refused("ahead(1, " + bad + ")", x -> x.ahead(1, bad), BAD, TABLES);
            refused("ahead(1, " + bad + "), no table ahead of BAD", x -> x.ahead(1, bad), STATE, Twins.BARE);
        }
        refused("ahead(0, 0)", x -> x.ahead(0, 0), STATE, Twins.BARE);
    }

    private static void lasts() {
        C.sentence("lasts: BAD; STATE: no TABLE (ahead of BAD), it is LOST.");
        for (int bad : new int[] {-1, 2, MIN, MAX}) {
            refused("lasts(" + bad + "), BAD ahead of lost", x -> x.lasts(bad), BAD, TABLES);
            refused("lasts(" + bad + "), no table ahead of BAD", x -> x.lasts(bad), STATE, Twins.BARE);
        }
        for (int what = 0; what < 2; what++) {
            int told = what;
            refused("lasts(" + what + ")", x -> x.lasts(told), STATE, Twins.BARE, Twins.LOST);
        }
    }

    private static void richest() {
        C.sentence("richest: BAD; STATE: no TABLE (ahead of BAD).");
        for (int bad : new int[] {0, -1, 41, MIN, MAX}) {
            refused("richest(" + bad + ", 0)", x -> x.richest(bad, 0), BAD, TABLES);
            refused("richest(" + bad + ", 0), no table ahead of BAD", x -> x.richest(bad, 0), STATE, Twins.BARE);
        }
        for (int bad : new int[] {-1, 2, MIN, MAX}) {
            refused("richest(1, " + bad + ")", x -> x.richest(1, bad), BAD, TABLES);
            refused("richest(1, " + bad + "), no table ahead of BAD", x -> x.richest(1, bad), STATE, Twins.BARE);
        }
        refused("richest(1, 0)", x -> x.richest(1, 0), STATE, Twins.BARE);
    }

    private static void nudged() {
        C.sentence("nudged: BAD; STATE: no TABLE (ahead of BAD), it is LOST.");
        for (int bad : new int[] {-1, 8, MIN, MAX}) {
            refused("nudged(" + bad + ", 1), BAD ahead of lost", x -> x.nudged(bad, 1), BAD, TABLES);
            refused("nudged(" + bad + ", 1), no table ahead of BAD", x -> x.nudged(bad, 1), STATE, Twins.BARE);
        }
        for (int bad : new int[] {0, -1, 21, MIN, MAX}) {
            refused("nudged(0, " + bad + "), BAD ahead of lost", x -> x.nudged(0, bad), BAD, TABLES);
            refused("nudged(0, " + bad + "), no table ahead of BAD", x -> x.nudged(0, bad), STATE, Twins.BARE);
        }
        refused("nudged(0, 1)", x -> x.nudged(0, 1), STATE, Twins.BARE, Twins.LOST);
    }

    private static void kept() {
        C.sentence("kept: BAD; STATE: no TABLE (ahead of BAD), it is LOST.");
        for (int bad : new int[] {0, -1, 21, MIN, MAX}) {
            refused("kept(" + bad + "), BAD ahead of lost", x -> x.kept(bad), BAD, TABLES);
            refused("kept(" + bad + "), no table ahead of BAD", x -> x.kept(bad), STATE, Twins.BARE);
        }
        refused("kept(1)", x -> x.kept(1), STATE, Twins.BARE, Twins.LOST);
    }

    private static void heardAhead() {
        C.sentence("heard: BAD: ROW, n, what; STATE: no TABLE (ahead of BAD)");
        for (int bad : new int[] {-1, 8, MIN, MAX}) {
            refused("heard(" + bad + ", 0, 1, 0)", x -> x.heard(bad, 0, 1, 0), BAD, TABLES);
            refused("heard(" + bad + ", -1, 1, 0), BAD ahead of PLACE", x -> x.heard(bad, -1, 1, 0), BAD, TABLES);
            refused("heard(" + bad + ", 0, 1, 0), no table ahead of BAD", x -> x.heard(bad, 0, 1, 0), STATE, Twins.BARE);
        }
        for (int bad : new int[] {0, -1, 11, MIN, MAX}) {
            refused("heard(0, 0, " + bad + ", 0)", x -> x.heard(0, 0, bad, 0), BAD, TABLES);
            refused("heard(3, 0, " + bad + ", 0), BAD ahead of NULL", x -> x.heard(3, 0, bad, 0), BAD, TABLES);
            refused("heard(7, 40, " + bad + ", 0), BAD ahead of PLACE", x -> x.heard(7, 40, bad, 0), BAD, TABLES);
            refused("heard(0, 0, " + bad + ", 0), no table ahead of BAD", x -> x.heard(0, 0, bad, 0), STATE, Twins.BARE);
        }
        for (int bad : new int[] {-1, 2, MIN, MAX}) {
            refused("heard(0, 0, 1, " + bad + ")", x -> x.heard(0, 0, 1, bad), BAD, TABLES);
            refused("heard(3, 0, 1, " + bad + "), BAD ahead of NULL", x -> x.heard(3, 0, 1, bad), BAD, TABLES);
            refused("heard(0, 5, 1, " + bad + "), BAD ahead of PLACE", x -> x.heard(0, 5, 1, bad), BAD, TABLES);
            refused("heard(0, 0, 1, " + bad + "), no table ahead of BAD", x -> x.heard(0, 0, 1, bad), STATE, Twins.BARE);
        }
        refused("heard(0, 0, 1, 0)", x -> x.heard(0, 0, 1, 0), STATE, Twins.BARE);
        refused("heard(3, 0, 1, 0), no table ahead of NULL", x -> x.heard(3, 0, 1, 0), STATE, Twins.BARE);
        refused("heard(0, -1, 1, 0), no table ahead of PLACE", x -> x.heard(0, -1, 1, 0), STATE, Twins.BARE);
        refused("heard(0, 2, 1, 0), no table ahead of an item", x -> x.heard(0, 2, 1, 0), STATE, Twins.BARE);
    }

    private static void heardFound() {
        C.sentence("heard: NULL; PLACE; then BAD: an ITEM that is no LETTER.");
        refused("heard(3, 0, 1, 0)", x -> x.heard(3, 0, 1, 0), NULL, TABLES);
        refused("heard(3, -1, 1, 0), NULL ahead of PLACE", x -> x.heard(3, -1, 1, 0), NULL, TABLES);
        for (int place : new int[] {-1, 5, 6, 40, MIN, MAX}) {
            refused("heard(0, " + place + ", 1, 1)", x -> x.heard(0, place, 1, 1), PLACE, TABLES);
        }
        refused("heard(4, 0, 1, 0), an empty row", x -> x.heard(4, 0, 1, 0), PLACE, TABLES);
        refused("heard(0, 3, 3, 0), one beyond the end", x -> x.heard(0, 3, 3, 0), PLACE, TABLES);
        refused("heard(0, 2, 4, 0), PLACE ahead of an item", x -> x.heard(0, 2, 4, 0), PLACE, TABLES);
        refused("heard(0, 0, 6, 0), PLACE ahead of an item", x -> x.heard(0, 0, 6, 0), PLACE, TABLES);
        refused("heard(7, 31, 10, 0), PLACE", x -> x.heard(7, 31, 10, 0), PLACE, TABLES);
        refused("heard(0, 0, 3, 0), the last is 9", x -> x.heard(0, 0, 3, 0), BAD, TABLES);
        refused("heard(0, 2, 3, 1), the first is 9", x -> x.heard(0, 2, 3, 1), BAD, TABLES);
        refused("heard(2, 1, 1, 0), it is -1", x -> x.heard(2, 1, 1, 0), BAD, TABLES);
    }

    private static void images() {
        C.sentence("image: BAD; STATE: no TABLE. restore: BAD; STATE: none was kept.");
        for (int bad : new int[] {-1, 2, MIN, MAX}) {
            refused("image(" + bad + "), BAD ahead of no table", x -> x.image(bad), BAD, Twins.BARE, Twins.PLAYED, Twins.LOST);
            refused("restore(" + bad + "), BAD ahead of none", x -> x.restore(bad), BAD, Twins.BARE, Twins.PLAYED, Twins.LOST);
        }
        refused("image(0)", x -> x.image(0), STATE, Twins.BARE);
        refused("image(1)", x -> x.image(1), STATE, Twins.BARE);
        refused("restore(0)", x -> x.restore(0), STATE, Twins.BARE, Twins.PLAYED, Twins.LOST);
        refused("restore(1)", x -> x.restore(1), STATE, Twins.BARE);
    }

    private static void kindAsAsk() {
        C.sentence("kind: BAD. as: BAD; KIND: it is no such one. ask: BAD.");
        for (int bad : new int[] {-1, 5, 6, MIN, MAX}) {
            refused("kind(" + bad + ")", x -> x.kind(bad), BAD, Twins.BARE, Twins.PLAYED);
            refused("as(" + bad + ", 0)", x -> x.as(bad, 0), BAD, Twins.BARE, Twins.PLAYED);
            refused("as(" + bad + ", 5), BAD ahead of KIND", x -> x.as(bad, 5), BAD, Twins.BARE, Twins.PLAYED);
            refused("ask(" + bad + ", 0)", x -> x.ask(bad, 0), BAD, Twins.BARE, Twins.PLAYED);
            refused("ask(" + bad + ", 1)", x -> x.ask(bad, 1), BAD, Twins.BARE, Twins.PLAYED);
        }
        for (int bad : new int[] {-1, 6, MIN, MAX}) {
            refused("as(0, " + bad + "), BAD ahead of KIND", x -> x.as(0, bad), BAD, Twins.BARE, Twins.PLAYED);
        }
        for (int bad : new int[] {-1, 2, MIN, MAX}) {
            refused("ask(0, " + bad + ")", x -> x.ask(0, bad), BAD, Twins.BARE, Twins.PLAYED);
        }
        refused("kind(0)", x -> x.kind(0), BAD, Twins.BARE);
        refused("as(0, 0)", x -> x.as(0, 0), BAD, Twins.BARE);
        refused("ask(0, 0)", x -> x.ask(0, 0), BAD, Twins.BARE);
        refused("as(0, 2)", x -> x.as(0, 2), KIND, TABLES);
        refused("as(4, 1)", x -> x.as(4, 1), KIND, TABLES);
    }

    private static void traceCount() {
        C.sentence("Number i of THE TRACE; NONE. count: BAD.");
        for (int none : new int[] {-1, 6, 15, 16, MIN, MAX}) {
            refused("trace(" + none + ")", x -> x.trace(none), Check.NONE, TABLES);
            refused("trace(" + none + ")", x -> x.trace(none), Check.NONE, Twins.BARE);
        }
        for (int bad : new int[] {-1, 6, MIN, MAX}) {
            refused("count(" + bad + ")", x -> x.count(bad), BAD, Twins.BARE, Twins.PLAYED);
        }
    }

    private static void foretold() {
        C.sentence("3 FORETOLD (nothing changes).");
        for (Twins kind : TABLES) {
            BumperBalls x = kind.made();
            for (int what = 0; what < 4; what++) {
                int told = what;
                kind.unchanged(C, "ahead(200, " + what + ")", y -> y.ahead(200, told), x.ahead(200, what), Twins.STATUS);
                kind.unchanged(C, "ahead(0, " + what + ")", y -> y.ahead(0, told), x.ahead(0, what), Twins.STATUS);
            }
            for (int what = 0; what < 2; what++) {
                int told = what;
                kind.unchanged(C, "richest(40, " + what + ")", y -> y.richest(40, told), x.richest(40, what), Twins.STATUS);
                kind.unchanged(C, "heard(1, 0, 1, " + what + ")", y -> y.heard(1, 0, 1, told), x.heard(1, 0, 1, what), 0);
                kind.unchanged(C, "heard(7, 0, 10, " + what + ")", y -> y.heard(7, 0, 10, told), x.heard(7, 0, 10, what), 0);
            }
        }
        BumperBalls x = Twins.PLAYED.made();
        for (int what = 0; what < 2; what++) {
            int told = what;
            Twins.PLAYED.unchanged(C, "lasts(" + what + ")", y -> y.lasts(told), x.lasts(what), Twins.STATUS);
        }
        for (int letter = 0; letter < 8; letter++) {
            int told = letter;
            Twins.PLAYED.unchanged(C, "nudged(" + letter + ", 20)", y -> y.nudged(told, 20), x.nudged(letter, 20), Twins.STATUS);
        }
        Twins.PLAYED.unchanged(C, "kept(20)", y -> y.kept(20), x.kept(20), Twins.STATUS);
    }

    private static void asked() {
        C.sentence("ball, pin, kind, as, trace, count, fault, status tell, and change nothing but status()");
        for (Twins kind : new Twins[] {Twins.PLAYED, Twins.LOST, Twins.FED}) {
            BumperBalls x = kind.made();
            kind.unchanged(C, "ball(0)", y -> y.ball(0), x.ball(0), Twins.STATUS);
            kind.unchanged(C, "pin(4, 4)", y -> y.pin(4, 4), x.pin(4, 4), Twins.STATUS);
            kind.unchanged(C, "kind(4)", y -> y.kind(4), 5, Twins.STATUS);
            kind.unchanged(C, "as(4, 0)", y -> y.as(4, 0), 4, 0);
            kind.unchanged(C, "as(1, 1)", y -> y.as(1, 1), 1, 0);
            kind.unchanged(C, "ask(1, 0), once more", y -> y.ask(1, 0), x.ask(1, 0), Twins.STATUS);
            kind.unchanged(C, "trace(0)", y -> y.trace(0), 12, Twins.STATUS);
            kind.unchanged(C, "count(5)", y -> y.count(5), kind == Twins.FED ? 400 : 0, Twins.STATUS);
            kind.unchanged(C, "fault()", y -> y.fault(), 2, Twins.STATUS);
            kind.unchanged(C, "status()", y -> y.status(), Twins.STATUS, Twins.STATUS);
        }
    }
}
