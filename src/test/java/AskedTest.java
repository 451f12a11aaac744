/** Promises 24 to 29, kinds and part 4 of the terms: what pins are asked, the trace, counts, status. */
final class AskedTest {
    private static final Check C = new Check("asked");
    private static final int NONE = Check.NONE, BAD = Check.BAD;
    private static final int MIN = Check.MIN, MAX = Check.MAX;
    private static final String ALL = "law 5;pin bumper 1 5 0 10;pin lefter 2 4 1 20;pin righter 3 3 2 30;"
        + "pin lamp 4 3 3 40;pin gate 5 3 4 50;ball 1 0 0;";

    public static void main(String[] args) {
        kindsAsTold();
        kindsOfNoPin();
        takenAsOneOfAKind();
        takenAsBeyond();
        sizeOfBumpers();
        sizeOfLefters();
        sizeOfRighters();
        sizeOfLamps();
        sizeOfGates();
        markOfBumpers();
        markOfRighters();
        markOfLamps();
        markOfGates();
        markOfLefters();
        leastAndMostPays();
        asksBeyond();
        traceEmptyAtFirst();
        traceEmptyAheadOfAnAsk();
        traceStays();
        tracePlaces();
        counts();
        countsWithoutATable();
        statusOfFindings();
        statusOfTheLatest();
        statusLeftByRefusals();
        statusLeftByOtherCalls();
        C.end();
    }

    private static void kindsAsTold() {
        C.sentence("The KIND of a PIN, as told (1 to 5).");
        BumperBalls x = Check.with(ALL);
        for (int pin = 0; pin < 5; pin++) {
            C.due("kind(" + pin + ")", x.kind(pin), pin + 1);
        }
        Check.read(x, "law 5;pin gate 0 0 0 0;pin gate 0 1 0 0;pin lamp 0 2 0 0;pin bumper 0 3 0 0;pin righter 0 4 0 0;"
            + "pin lefter 0 5 0 0;ball 1 0 0;");
        int[] kinds = {5, 5, 4, 1, 3, 2};
        for (int pin = 0; pin < 6; pin++) {
            C.due("kind(" + pin + ")", x.kind(pin), kinds[pin]);
        }
    }

    private static void kindsOfNoPin() {
        C.sentence("kind: BAD.");
        BumperBalls x = new BumperBalls();
        C.due("no table", x.kind(0), BAD);
        Check.read(x, "law 5;ball 1 0 0;");
        C.due("no pin", x.kind(0), BAD);
        Check.read(x, ALL);
        for (int bad : new int[] {-1, 5, 6, MIN, MAX}) {
            C.due("kind(" + bad + ")", x.kind(bad), BAD);
        }
    }

    private static void takenAsOneOfAKind() {
        C.sentence("0 PIN; 1 BUMPER, a PIN; 2 LEFTER, a BUMPER; 3 RIGHTER, a BUMPER; 4 LAMP, a PIN; 5 GATE, a LAMP");
        BumperBalls x = Check.with(ALL);
        String[] is = {"01", "012", "013", "04", "045"};
        for (int pin = 0; pin < 5; pin++) {
            for (int kind = 0; kind < 6; kind++) {
                boolean isSo = is[pin].indexOf('0' + kind) >= 0;
                C.due("as(" + pin + ", " + kind + ")", x.as(pin, kind), isSo ? pin : Check.KIND);
                C.due("status()", x.status(), isSo ? 0 : 3);
            }
            C.due("it stays of its kind", x.kind(pin), pin + 1);
        }
    }

    private static void takenAsBeyond() {
        C.sentence("A PIN is taken as one of a KIND (0 .. 5). BAD");
        BumperBalls x = new BumperBalls();
        C.due("no table", x.as(0, 0), BAD);
        Check.read(x, ALL);
        for (int bad : new int[] {-1, 5, 6, MIN, MAX}) {
            C.due("as(" + bad + ", 0)", x.as(bad, 0), BAD);
        }
        for (int bad : new int[] {-1, 6, MIN, MAX}) {
            C.due("as(0, " + bad + ")", x.as(0, bad), BAD);
        }
        C.due("status()", x.status(), 0);
    }

    private static void asked(BumperBalls x, int pin, int what, int want, int... bodies) {
        String call = "ask(" + pin + ", " + what + ")";
        C.due(call, x.ask(pin, what), want);
        for (int i = 0; i < 17; i++) {
            C.due("trace(" + i + ") of " + call, x.trace(i), i < bodies.length ? bodies[i] : NONE);
        }
    }

    /** A table of all kinds; a pin of it was struck so many times. */
    private static BumperBalls struck(int pin, int times) {
        BumperBalls x = Check.with(ALL);
        for (int k = 0; k < times; k++) {
            x.put(x.pin(pin, 0) - 7, 0);
            x.steps(1);
        }
        C.due("pin(" + pin + ", 3)", x.pin(pin, 3), times);
        return x;
    }

    private static void sizeOfBumpers() {
        C.sentence("11 of BUMPERS: what 10 gives, and MARK.");
        asked(struck(0, 0), 0, 0, 10 + 0, 11, 10, 21, 20);
        asked(struck(0, 3), 0, 0, 10 + 3, 11, 10, 21, 20);
    }

    private static void sizeOfLefters() {
        C.sentence("12 of LEFTERS: 0 less what 11 gives.");
        asked(struck(1, 0), 1, 0, -(20 + 2), 12, 11, 10, 24, 21, 20);
        asked(struck(1, 2), 1, 0, -(20 + 2 * (1 + 2)), 12, 11, 10, 24, 21, 20);
    }

    private static void sizeOfRighters() {
        C.sentence("Of an ask the BODY told for the KIND begins, else that of the nearest KIND that it is, too");
        asked(struck(2, 0), 2, 0, 30 + 2 - 1000, 11, 10, 22, 21, 20);
        asked(struck(2, 4), 2, 0, 30 + 2 + 4 - 1000, 11, 10, 22, 21, 20);
    }

    private static void sizeOfLamps() {
        C.sentence("13 of LAMPS: what 10 gives, less 100.");
        asked(struck(3, 0), 3, 0, 40 - 100, 13, 10);
        asked(struck(3, 5), 3, 0, 40 - 100, 13, 10);
    }

    private static void sizeOfGates() {
        C.sentence("14 of GATES: twice what 13 gives (asked once).");
        asked(struck(4, 0), 4, 0, 2 * (50 - 100), 14, 13, 10);
        asked(struck(4, 1), 4, 0, 2 * (50 - 100), 14, 13, 10);
    }

    private static void markOfBumpers() {
        C.sentence("21 of BUMPERS: what 20 gives, and how often it was STRUCK.");
        asked(struck(0, 0), 0, 1, 0, 21, 20);
        asked(struck(0, 6), 0, 1, 6, 21, 20);
    }

    private static void markOfRighters() {
        C.sentence("22 of RIGHTERS: what 21 gives, less 1000.");
        asked(struck(2, 0), 2, 1, 2 - 1000, 22, 21, 20);
        asked(struck(2, 7), 2, 1, 2 + 7 - 1000, 22, 21, 20);
    }

    private static void markOfLamps() {
        C.sentence("23 of LAMPS: what 20 gives, less SIZE.");
        asked(struck(3, 0), 3, 1, 3 - (40 - 100), 23, 20, 13, 10);
        asked(struck(3, 2), 3, 1, 3 - (40 - 100), 23, 20, 13, 10);
    }

    private static void markOfGates() {
        C.sentence("SIZE, MARK within others are asked of the same PIN anew");
        asked(struck(4, 0), 4, 1, 4 - 2 * (50 - 100), 23, 20, 14, 13, 10);
        asked(struck(4, 3), 4, 1, 4 - 2 * (50 - 100), 23, 20, 14, 13, 10);
    }

    private static void markOfLefters() {
        C.sentence("24 of LEFTERS: twice what 21 gives (asked once).");
        asked(struck(1, 0), 1, 1, 2 * 1, 24, 21, 20);
        asked(struck(1, 5), 1, 1, 2 * (1 + 5), 24, 21, 20);
    }

    private static void leastAndMostPays() {
        C.sentence("10 lent to all PINS: PAYS. 20 lent to all PINS: its number.");
        for (int pays : new int[] {0, 99}) {
            BumperBalls x = Check.with("law 5;pin gate 0 1 0 " + pays + ";pin lamp 1 1 0 " + pays + ";pin bumper 2 1 0 " + pays
                + ";pin lefter 3 1 0 " + pays + ";pin righter 4 1 0 " + pays + ";pin bumper 5 1 0 " + pays + ";ball 6 0 0;");
            int[] sizes = {2 * (pays - 100), pays - 100, pays + 2, -(pays + 6), pays + 4 - 1000, pays + 5};
            int[] marks = {-2 * (pays - 100), 1 - (pays - 100), 2, 6, 4 - 1000, 5};
            for (int pin = 0; pin < 6; pin++) {
                C.due("ask(" + pin + ", 0)", x.ask(pin, 0), sizes[pin]);
                C.due("ask(" + pin + ", 1)", x.ask(pin, 1), marks[pin]);
            }
        }
    }

    private static void asksBeyond() {
        C.sentence("An ASK (0, 1) of a PIN. BAD.");
        BumperBalls x = new BumperBalls();
        C.due("no table", x.ask(0, 0), BAD);
        Check.read(x, ALL);
        for (int bad : new int[] {-1, 5, 6, MIN, MAX}) {
            C.due("ask(" + bad + ", 0)", x.ask(bad, 0), BAD);
        }
        for (int bad : new int[] {-1, 2, MIN, MAX}) {
            C.due("ask(0, " + bad + ")", x.ask(0, bad), BAD);
        }
        C.due("trace(0)", x.trace(0), NONE);
    }

    private static void traceEmptyAtFirst() {
        C.sentence("Number i of THE TRACE; NONE: at first");
        BumperBalls x = new BumperBalls();
        for (int i : new int[] {-1, 0, 1, 15, 16, MIN, MAX}) {
            C.due("trace(" + i + ")", x.trace(i), NONE);
        }
        Check.read(x, ALL);
        C.due("trace(0)", x.trace(0), NONE);
    }

    private static void traceEmptyAheadOfAnAsk() {
        C.sentence("THE TRACE is empty ahead of it");
        BumperBalls x = Check.with(ALL);
        asked(x, 1, 0, -22, 12, 11, 10, 24, 21, 20);
        asked(x, 1, 0, -22, 12, 11, 10, 24, 21, 20);
        asked(x, 3, 0, -60, 13, 10);
        asked(x, 0, 1, 0, 21, 20);
        asked(x, 4, 1, 104, 23, 20, 14, 13, 10);
    }

    private static void traceStays() {
        C.sentence("where that is refused it stays");
        BumperBalls x = Check.with(ALL);
        x.ask(1, 0);
        C.due("ask(5, 0)", x.ask(5, 0), BAD);
        C.due("ask(-1, 1)", x.ask(-1, 1), BAD);
        C.due("ask(0, 2)", x.ask(0, 2), BAD);
        x.kind(0);
        x.as(0, 5);
        x.steps(1);
        x.image(0);
        Check.read(x, "law 5;ball 0 0 0;");
        C.due("ask(0, 0), no pin", x.ask(0, 0), BAD);
        Check.read(x, "law 0;");
        x.restore(0);
        int[] bodies = {12, 11, 10, 24, 21, 20, NONE};
        for (int i = 0; i < bodies.length; i++) {
            C.due("trace(" + i + ")", x.trace(i), bodies[i]);
        }
    }

    /** No ask has more than six bodies: that the first 16 are kept cannot be seen. */
    private static void tracePlaces() {
        C.sentence("Number i of THE TRACE; NONE.");
        BumperBalls x = Check.with(ALL);
        x.ask(3, 0);
        C.due("the first", x.trace(0), 13);
        C.due("the last", x.trace(1), 10);
        for (int i : new int[] {-1, 2, 3, 15, 16, 17, MIN, MAX}) {
            C.due("trace(" + i + ")", x.trace(i), NONE);
        }
        x.ask(1, 0);
        C.due("the last", x.trace(5), 20);
        C.due("behind it", x.trace(6), NONE);
    }

    private static void counts() {
        C.sentence("How many: 0 ROWS, 1 PINS, 2 STEPS gone, 3 ACTS that can be undone, 4 TILT, 5 bytes on the tape. BAD.");
        BumperBalls x = new BumperBalls();
        x.row(0, 0, 0);
        x.row(5, 0, 1);
        x.row(7, 0, 40);
        Check.read(x, ALL);
        x.steps(7);
        x.nudge();
        x.undo();
        x.put(0, 1);
        x.put(0, 1);
        Check.feed(x, "hi");
        int[] want = {3, 5, 7, 9, 5, 2};
        for (int what = 0; what < want.length; what++) {
            C.due("count(" + what + ")", x.count(what), want[what]);
        }
        for (int bad : new int[] {-1, 6, MIN, MAX}) {
            C.due("count(" + bad + ")", x.count(bad), BAD);
        }
        x.drop(5);
        C.due("one row less", x.count(0), 2);
    }

    private static void countsWithoutATable() {
        C.sentence("4 TILT (0 without a TABLE)");
        BumperBalls x = new BumperBalls();
        for (int what = 0; what < 6; what++) {
            C.due("count(" + what + ")", x.count(what), 0);
        }
        for (int bad : new int[] {-1, 6, MIN, MAX}) {
            C.due("count(" + bad + ")", x.count(bad), BAD);
        }
        Check.read(x, "law 20;pin lamp 0 0 0 0;ball 9 9 9;");
        for (int what = 0; what < 6; what++) {
            C.due("count(" + what + ") behind a fault", x.count(what), 0);
        }
        Check.read(x, "law 20;pin lamp 0 0 0 0;ball 0 1 0;");
        C.due("count(4)", x.count(4), 20);
        C.due("count(1)", x.count(1), 1);
    }

    private static void statusOfFindings() {
        C.sentence("-1000010 less 1 NULL, 2 PLACE, 3 KIND, 4 SIZE, 5 STORE; the number of its FINDING");
        BumperBalls x = Check.with(ALL);
        C.due("none yet", x.status(), 0);
        C.due("drop(0)", x.drop(0), -1000011);
        C.due("NULL", x.status(), 1);
        x.row(0, 0, 1);
        C.due("set(0, 1, 0)", x.set(0, 1, 0), -1000012);
        C.due("PLACE", x.status(), 2);
        C.due("as(0, 5)", x.as(0, 5), -1000013);
        C.due("KIND", x.status(), 3);
        C.due("row(0, 0, -1)", x.row(0, 0, -1), -1000014);
        C.due("SIZE", x.status(), 4);
        x.row(1, 1, 1);
        C.due("copy(0, 0, 1, 0, 1)", x.copy(0, 0, 1, 0, 1), -1000015);
        C.due("STORE", x.status(), 5);
        C.due("STORE yet", x.status(), 5);
    }

    private static void statusOfTheLatest() {
        C.sentence("Of the latest call with a ROW, or as(): 0: it had none, or there was none");
        BumperBalls x = Check.with(ALL);
        C.due("there was none", x.status(), 0);
        x.drop(7);
        C.due("by drop", x.status(), 1);
        x.row(0, 0, 2);
        C.due("none by row", x.status(), 0);
        x.set(1, 0, 0);
        C.due("by set", x.status(), 1);
        x.set(0, 0, 0);
        C.due("none by set", x.status(), 0);
        x.copy(0, 0, 0, 1, 2);
        C.due("by copy", x.status(), 2);
        x.copy(0, 0, 0, 1, 1);
        C.due("none by copy", x.status(), 0);
        x.heard(0, 0, 3, 0);
        C.due("by heard", x.status(), 2);
        x.heard(0, 0, 1, 0);
        C.due("none by heard", x.status(), 0);
        x.as(0, 2);
        C.due("by as", x.status(), 3);
        x.as(0, 1);
        C.due("none by as", x.status(), 0);
        x.heard(5, 0, 1, 0);
        C.due("by heard", x.status(), 1);
        x.set(0, 0, 6);
        x.as(0, 2);
        x.heard(0, 0, 2, 1);
        C.due("none by heard, though nothing fits", x.status(), 0);
        x.row(0, 0, -1);
        x.drop(0);
        C.due("none by drop", x.status(), 0);
    }

    private static void statusLeftByRefusals() {
        C.sentence("that was not BAD, STATE, FULL");
        BumperBalls x = new BumperBalls();
        x.row(0, 0, 2);
        x.set(0, 0, 9);
        x.row(0, 0, -1);
        C.due("row(8, 0, 1)", x.row(8, 0, 1), BAD);
        C.due("row(0, 0, 41)", x.row(0, 0, 41), BAD);
        C.due("set(8, 0, 1)", x.set(8, 0, 1), BAD);
        C.due("copy(0, 0, 8, 0, 1)", x.copy(0, 0, 8, 0, 1), BAD);
        C.due("drop(8)", x.drop(8), BAD);
        C.due("heard(0, 0, 1, 0)", x.heard(0, 0, 1, 0), Check.STATE);
        C.due("as(0, 0)", x.as(0, 0), BAD);
        Check.read(x, ALL);
        C.due("heard(0, 0, 0, 0)", x.heard(0, 0, 0, 0), BAD);
        C.due("heard(0, 0, 1, 0), no letter", x.heard(0, 0, 1, 0), BAD);
        C.due("as(0, 6)", x.as(0, 6), BAD);
        C.due("status()", x.status(), 4);
        x.set(0, 0, 1);
        C.due("heard(0, 0, 1, 2)", x.heard(0, 0, 1, 2), BAD);
        C.due("status()", x.status(), 0);
    }

    private static void statusLeftByOtherCalls() {
        C.sentence("status: other calls leave it");
        BumperBalls x = Check.with(ALL);
        x.as(0, 2);
        x.feed(0, 1);
        x.table();
        x.fault();
        x.steps(1);
        x.nudge();
        x.flip();
        x.put(0, 0);
        x.undo();
        x.ball(0);
        x.pin(0, 0);
        x.ahead(1, 0);
        x.lasts(0);
        x.richest(1, 0);
        x.nudged(0, 1);
        x.kept(1);
        x.image(0);
        x.restore(0);
        x.kind(0);
        x.ask(0, 0);
        x.trace(0);
        x.count(0);
        Check.read(x, ALL);
        C.due("status()", x.status(), 3);
    }
}
