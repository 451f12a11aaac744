/** Promises 1 to 5, part 1 of the terms: rows. A test for each sentence that names a boundary. */
final class RowsTest {
    private static final Check C = new Check("rows");
    private static final int MIN = Check.MIN, MAX = Check.MAX;
    // Letter k stands at the head of column k: to strike it first, the least to put is cell k, up.
    private static final String LAMPS = "law 5;pin lamp 0 5 0 1;pin lamp 1 5 1 1;pin lamp 2 5 2 1;pin lamp 3 5 3 1;"
        + "pin lamp 4 5 4 1;pin lamp 5 5 5 1;ball 6 0 0;";

    public static void main(String[] args) {
        noTableAtFirst();
        nothingIsShared();
        rowsAreMissingAtFirst();
        eightRows();
        threeLanes();
        upToFortyItems();
        fewerThanNone();
        itemsAreZeroAtFirst();
        inPlaceOfWhatIsThere();
        bytes();
        shorts();
        ints();
        itStaysWhatItIsThen();
        placesOfARow();
        setsOfAMissingRow();
        copiesWhatIsTold();
        copiesAsTheyWereAhead();
        copiesNone();
        copiesAll();
        placesOfACopy();
        lanesOfACopy();
        copiesOfMissingRows();
        dropsARow();
        dropsAMissingRow();
        rowsAreCounted();
        C.end();
    }

    private static void noTableAtFirst() {
        C.sentence("BumperBalls(): No TABLE.");
        asNew(new BumperBalls());
    }

    private static void asNew(BumperBalls x) {
        for (int what = 0; what < 6; what++) {
            C.due("count(" + what + ")", x.count(what), 0);
            C.due("ball(" + what + ")", x.ball(what), Check.STATE);
        }
        C.due("pin(0, 0)", x.pin(0, 0), Check.BAD);
        C.due("kind(0)", x.kind(0), Check.BAD);
        C.due("fault()", x.fault(), 0);
        C.due("status()", x.status(), 0);
        C.due("undo()", x.undo(), Check.STATE);
        C.due("trace(0)", x.trace(0), Check.NONE);
        C.due("restore(0)", x.restore(0), Check.STATE);
        C.due("restore(1)", x.restore(1), Check.STATE);
    }

    private static void nothingIsShared() {
        C.sentence("BumperBalls(): No TABLE., whatever other objects have");
        BumperBalls ahead = new BumperBalls();
        BumperBalls used = Twins.FED.made();
        used.image(0);
        asNew(ahead);
        asNew(new BumperBalls());
        C.due("the other one's rows", used.count(0), 5);
        C.due("its bytes", used.count(5), 400);
        C.due("its pins", used.count(1), 5);
        C.due("its image", used.restore(0), 1);
        for (int row = 0; row < 8; row++) {
            C.due("drop(" + row + ")", ahead.drop(row), Check.NULL);
        }
    }

    private static void rowsAreMissingAtFirst() {
        C.sentence("ROWS 0 .. 7 are missing (at first)");
        for (int row = 0; row < 8; row++) {
            BumperBalls x = new BumperBalls();
            C.due("set(" + row + ", 0, 0)", x.set(row, 0, 0), Check.NULL);
            C.due("copy(" + row + ", 0, " + row + ", 0, 0)", x.copy(row, 0, row, 0, 0), Check.NULL);
            C.due("drop(" + row + ")", x.drop(row), Check.NULL);
        }
    }

    private static void eightRows() {
        C.sentence("ROWS 0 .. 7");
        BumperBalls x = new BumperBalls();
        for (int row = 0; row < 8; row++) {
            C.due("row(" + row + ", 0, 1)", x.row(row, 0, 1), 1);
            C.due("set(" + row + ", 0, 5)", x.set(row, 0, 5), 5);
            C.due("copy(" + row + ", 0, 0, 0, 1)", x.copy(row, 0, 0, 0, 1), 1);
            C.due("copy(0, 0, " + row + ", 0, 1)", x.copy(0, 0, row, 0, 1), 1);
        }
        for (int bad : new int[] {-1, 8, MIN, MAX}) {
            C.due("row(" + bad + ", 0, 1)", x.row(bad, 0, 1), Check.BAD);
            C.due("set(" + bad + ", 0, 5)", x.set(bad, 0, 5), Check.BAD);
            C.due("copy(" + bad + ", 0, 0, 0, 1)", x.copy(bad, 0, 0, 0, 1), Check.BAD);
            C.due("copy(0, 0, " + bad + ", 0, 1)", x.copy(0, 0, bad, 0, 1), Check.BAD);
            C.due("drop(" + bad + ")", x.drop(bad), Check.BAD);
        }
        for (int row = 0; row < 8; row++) {
            C.due("drop(" + row + ")", x.drop(row), 1);
        }
    }

    private static void threeLanes() {
        C.sentence("a LANE (0 bytes, 1 shorts, 2 ints)");
        BumperBalls x = new BumperBalls();
        for (int lane = 0; lane < 3; lane++) {
            C.due("row(0, " + lane + ", 1)", x.row(0, lane, 1), 1);
        }
        for (int bad : new int[] {-1, 3, MIN, MAX}) {
            C.due("row(0, " + bad + ", 1)", x.row(0, bad, 1), Check.BAD);
        }
    }

    private static void upToFortyItems() {
        C.sentence("0 to 40 ITEMS");
        for (int lane = 0; lane < 3; lane++) {
            BumperBalls x = new BumperBalls();
            for (int n : new int[] {0, 1, 39, 40}) {
                C.due("row(7, " + lane + ", " + n + ")", x.row(7, lane, n), n);
                C.due("set at " + (n - 1), x.set(7, n - 1, 1), n == 0 ? Check.PLACE : 1);
                C.due("set at " + n, x.set(7, n, 1), Check.PLACE);
            }
            C.due("row of 41", x.row(7, lane, 41), Check.BAD);
            C.due("row of MAX", x.row(7, lane, MAX), Check.BAD);
            C.due("drop(7)", x.drop(7), 40);
        }
    }

    private static void fewerThanNone() {
        C.sentence("4 SIZE (fewer than none)");
        BumperBalls x = new BumperBalls();
        C.due("row(0, 0, 0)", x.row(0, 0, 0), 0);
        C.due("row(0, 0, -1)", x.row(0, 0, -1), Check.SIZE);
        C.due("status()", x.status(), 4);
        C.due("row(1, 2, MIN)", x.row(1, 2, MIN), Check.SIZE);
        C.due("count(0)", x.count(0), 1);
    }

    private static void tells(BumperBalls x, int row, int... letters) {
        for (int i = 0; i < letters.length; i++) {
            C.due("item " + i + " of row " + row, x.heard(row, i, 1, 1), 4 * letters[i]);
        }
    }

    private static void itemsAreZeroAtFirst() {
        C.sentence("0 to 40 ITEMS, 0 at first");
        for (int lane = 0; lane < 3; lane++) {
            BumperBalls x = Check.with(LAMPS);
            x.row(3, lane, 40);
            tells(x, 3, new int[40]);
            for (int i = 0; i < 40; i++) {
                x.set(3, i, 5);
            }
            C.due("item 39", x.heard(3, 39, 1, 1), 20);
            x.row(3, lane, 2);
            tells(x, 3, 0, 0);
            x.row(3, lane, 40);
            tells(x, 3, new int[40]);
            x.set(3, 1, 4);
            x.drop(3);
            x.row(3, lane, 3);
            tells(x, 3, 0, 0, 0);
        }
    }

    private static void inPlaceOfWhatIsThere() {
        C.sentence("A ROW of a LANE with n ITEMS, in place of what is there: n.");
        BumperBalls x = new BumperBalls();
        x.row(2, 2, 40);
        C.due("row(2, 0, 3)", x.row(2, 0, 3), 3);
        C.due("count(0)", x.count(0), 1);
        C.due("it is of bytes", x.set(2, 2, 128), -128);
        C.due("it has 3", x.set(2, 3, 0), Check.PLACE);
        C.due("row(2, 1, 0)", x.row(2, 1, 0), 0);
        C.due("it has none", x.set(2, 0, 0), Check.PLACE);
        C.due("count(0)", x.count(0), 1);
    }

    private static void becomes(BumperBalls x, int row, int v, int want) {
        C.due("set(" + row + ", 0, " + v + ")", x.set(row, 0, v), want);
    }

    private static void bytes() {
        C.sentence("its lowest bits, as many as the LANE has (read with their sign): bytes");
        BumperBalls x = new BumperBalls();
        x.row(0, 0, 1);
        int[][] sets = {{0, 0}, {127, 127}, {128, -128}, {-128, -128}, {-129, 127}, {255, -1}, {256, 0}, {-1, -1},
            {-256, 0}, {-257, -1}, {32767, -1}, {32768, 0}, {MAX, -1}, {MIN, 0}, {MIN + 127, 127}, {MIN + 128, -128}};
        for (int[] set : sets) {
            becomes(x, 0, set[0], set[1]);
        }
    }

    private static void shorts() {
        C.sentence("its lowest bits, as many as the LANE has (read with their sign): shorts");
        BumperBalls x = new BumperBalls();
        x.row(0, 1, 1);
        int[][] sets = {{127, 127}, {128, 128}, {255, 255}, {32767, 32767}, {32768, -32768}, {-32768, -32768},
            {-32769, 32767}, {65535, -1}, {65536, 0}, {-1, -1}, {-65537, -1}, {MAX, -1}, {MIN, 0}, {MIN + 32768, -32768}};
        for (int[] set : sets) {
            becomes(x, 0, set[0], set[1]);
        }
    }

    private static void ints() {
        C.sentence("its lowest bits, as many as the LANE has (read with their sign): ints");
        BumperBalls x = new BumperBalls();
        x.row(0, 2, 1);
        for (int v : new int[] {0, 127, 128, -129, 32768, -32769, 65536, MAX, MIN, -1}) {
            becomes(x, 0, v, v);
        }
    }

    private static void itStaysWhatItIsThen() {
        C.sentence("ITEM i becomes v, its lowest bits");
        BumperBalls x = Check.with(LAMPS);
        x.row(0, 0, 2);
        x.row(1, 1, 2);
        x.row(2, 2, 2);
        for (int row = 0; row < 3; row++) {
            x.set(row, 1, 3);
        }
        x.set(0, 0, 256 + 5);
        x.set(1, 0, 65536 + 4);
        x.set(2, 0, 2);
        tells(x, 0, 5, 3);
        tells(x, 1, 4, 3);
        tells(x, 2, 2, 3);
        x.set(1, 0, 256 + 4);
        C.due("260 in shorts is no letter", x.heard(1, 0, 1, 1), Check.BAD);
        x.set(2, 0, 65536 + 4);
        C.due("65540 in ints is no letter", x.heard(2, 0, 1, 1), Check.BAD);
        tells(x, 0, 5, 3);
    }

    private static void placesOfARow() {
        C.sentence("2 PLACE (no such place of a ROW): set");
        BumperBalls x = new BumperBalls();
        x.row(0, 0, 5);
        C.due("the first", x.set(0, 0, 7), 7);
        C.due("the last", x.set(0, 4, 8), 8);
        for (int place : new int[] {-1, 5, 6, 39, 40, MIN, MAX}) {
            C.due("set(0, " + place + ", 9)", x.set(0, place, 9), Check.PLACE);
            C.due("status()", x.status(), 2);
        }
    }

    private static void setsOfAMissingRow() {
        C.sentence("1 NULL (a ROW that is missing): set");
        BumperBalls x = new BumperBalls();
        x.row(1, 0, 1);
        C.due("ahead of what is there", x.set(0, 0, 0), Check.NULL);
        C.due("what is there", x.set(1, 0, 0), 0);
        C.due("behind what is there", x.set(2, 0, 0), Check.NULL);
        C.due("status()", x.status(), 1);
    }

    private static void copiesWhatIsTold() {
        C.sentence("n ITEMS of a from i on come to b from j on");
        BumperBalls x = Check.with(LAMPS);
        Check.fill(x, 0, 1, 2, 3, 4, 5);
        Check.fill(x, 1, 0, 0, 0, 0, 0);
        C.due("copy(0, 1, 1, 2, 2)", x.copy(0, 1, 1, 2, 2), 2);
        tells(x, 1, 0, 0, 2, 3, 0);
        tells(x, 0, 1, 2, 3, 4, 5);
        C.due("copy(0, 4, 1, 0, 1)", x.copy(0, 4, 1, 0, 1), 1);
        C.due("copy(0, 0, 1, 4, 1)", x.copy(0, 0, 1, 4, 1), 1);
        tells(x, 1, 5, 0, 2, 3, 1);
    }

    private static void copiesAsTheyWereAhead() {
        C.sentence("as they were ahead");
        for (int lane = 0; lane < 3; lane++) {
            BumperBalls x = Check.with(LAMPS);
            Check.fill(x, 0, lane, new int[] {1, 2, 3, 4, 5});
            C.due("one on", x.copy(0, 0, 0, 1, 4), 4);
            tells(x, 0, 1, 1, 2, 3, 4);
            Check.fill(x, 0, lane, new int[] {1, 2, 3, 4, 5});
            C.due("one back", x.copy(0, 1, 0, 0, 4), 4);
            tells(x, 0, 2, 3, 4, 5, 5);
            C.due("to where they are", x.copy(0, 0, 0, 0, 5), 5);
            tells(x, 0, 2, 3, 4, 5, 5);
            C.due("two on", x.copy(0, 0, 0, 2, 3), 3);
            tells(x, 0, 2, 3, 2, 3, 4);
        }
    }

    private static void copiesNone() {
        C.sentence("copy: n = 0 is not below 0, and an end is not beyond it");
        BumperBalls x = Check.with(LAMPS);
        Check.fill(x, 0, 1, 2);
        Check.fill(x, 1, 3);
        x.row(2, 0, 0);
        C.due("at the beginnings", x.copy(0, 0, 1, 0, 0), 0);
        C.due("at the ends", x.copy(0, 2, 1, 1, 0), 0);
        C.due("beyond an end of a", x.copy(0, 3, 1, 0, 0), Check.PLACE);
        C.due("beyond an end of b", x.copy(0, 0, 1, 2, 0), Check.PLACE);
        C.due("of an empty row", x.copy(2, 0, 2, 0, 0), 0);
        C.due("behind an empty row", x.copy(2, 1, 1, 0, 0), Check.PLACE);
        C.due("to behind an empty row", x.copy(1, 0, 2, 1, 0), Check.PLACE);
        C.due("one of an empty row", x.copy(2, 0, 1, 0, 1), Check.PLACE);
        tells(x, 0, 1, 2);
        tells(x, 1, 3);
    }

    private static void copiesAll() {
        C.sentence("copy: all 40 ITEMS");
        BumperBalls x = Check.with(LAMPS);
        x.row(0, 0, 40);
        x.row(7, 0, 40);
        x.set(0, 0, 1);
        x.set(0, 39, 2);
        C.due("41", x.copy(0, 0, 7, 0, 41), Check.PLACE);
        C.due("40", x.copy(0, 0, 7, 0, 40), 40);
        C.due("the first", x.heard(7, 0, 1, 1), 4);
        C.due("one between", x.heard(7, 38, 1, 1), 0);
        C.due("the last", x.heard(7, 39, 1, 1), 8);
        C.due("39 from 1 on", x.copy(0, 1, 7, 1, 39), 39);
        C.due("40 from 1 on", x.copy(0, 1, 7, 1, 40), Check.PLACE);
    }

    private static void placesOfACopy() {
        C.sentence("PLACE (i, j, n below 0, or beyond an end)");
        BumperBalls x = new BumperBalls();
        x.row(0, 0, 4);
        x.row(1, 0, 2);
        C.due("i -1", x.copy(0, -1, 1, 0, 1), Check.PLACE);
        C.due("i MIN", x.copy(0, MIN, 1, 0, 1), Check.PLACE);
        C.due("j -1", x.copy(0, 0, 1, -1, 1), Check.PLACE);
        C.due("j MIN", x.copy(0, 0, 1, MIN, 1), Check.PLACE);
        C.due("n -1", x.copy(0, 0, 1, 0, -1), Check.PLACE);
        C.due("n -1 at the ends", x.copy(0, 4, 1, 2, -1), Check.PLACE);
        C.due("n MIN", x.copy(0, 0, 1, 0, MIN), Check.PLACE);
        C.due("the last two of a", x.copy(0, 2, 1, 0, 2), 2);
        C.due("one beyond the end of a", x.copy(0, 3, 1, 0, 2), Check.PLACE);
        C.due("the last of b", x.copy(0, 0, 1, 1, 1), 1);
        C.due("one beyond the end of b", x.copy(0, 0, 1, 1, 2), Check.PLACE);
        C.due("i at the end of a", x.copy(0, 4, 1, 0, 1), Check.PLACE);
        C.due("j at the end of b", x.copy(0, 0, 1, 2, 1), Check.PLACE);
        C.due("i MAX", x.copy(0, MAX, 1, 0, 1), Check.PLACE);
        C.due("j MAX", x.copy(0, 0, 1, MAX, 2), Check.PLACE);
        C.due("n MAX", x.copy(0, 1, 1, 0, MAX), Check.PLACE);
        C.due("i, j, n MAX", x.copy(0, MAX, 1, MAX, MAX), Check.PLACE);
        C.due("i -1, one less behind it", x.copy(0, -1, 0, 0, 0), Check.PLACE);
        C.due("status()", x.status(), 2);
    }

    private static void lanesOfACopy() {
        C.sentence("5 STORE (ROWS of two LANES)");
        for (int a = 0; a < 3; a++) {
            for (int b = 0; b < 3; b++) {
                BumperBalls x = new BumperBalls();
                x.row(0, a, 2);
                x.row(1, b, 2);
                C.due("one, " + a + " to " + b, x.copy(0, 0, 1, 0, 1), a == b ? 1 : Check.STORE);
                C.due("none, " + a + " to " + b, x.copy(0, 0, 1, 0, 0), a == b ? 0 : Check.STORE);
                C.due("status()", x.status(), a == b ? 0 : 5);
            }
        }
    }

    private static void copiesOfMissingRows() {
        C.sentence("1 NULL (a ROW that is missing): copy");
        BumperBalls x = new BumperBalls();
        x.row(3, 0, 2);
        C.due("a is missing", x.copy(2, 0, 3, 0, 1), Check.NULL);
        C.due("b is missing", x.copy(3, 0, 4, 0, 1), Check.NULL);
        C.due("both are", x.copy(2, 0, 4, 0, 1), Check.NULL);
        C.due("one is, twice", x.copy(2, 0, 2, 0, 1), Check.NULL);
        C.due("none is", x.copy(3, 0, 3, 1, 1), 1);
    }

    private static void dropsARow() {
        C.sentence("A ROW is missing from now on: how many ITEMS it had.");
        BumperBalls x = new BumperBalls();
        for (int n : new int[] {0, 1, 40}) {
            x.row(3, 2, n);
            C.due("drop(3)", x.drop(3), n);
            C.due("set(3, 0, 0)", x.set(3, 0, 0), Check.NULL);
            C.due("copy(3, 0, 3, 0, 0)", x.copy(3, 0, 3, 0, 0), Check.NULL);
            C.due("drop(3)", x.drop(3), Check.NULL);
        }
        C.due("made anew", x.row(3, 0, 2), 2);
        C.due("drop(3)", x.drop(3), 2);
    }

    private static void dropsAMissingRow() {
        C.sentence("1 NULL (a ROW that is missing): drop");
        BumperBalls x = new BumperBalls();
        x.row(1, 0, 1);
        C.due("ahead of what is there", x.drop(0), Check.NULL);
        C.due("behind what is there", x.drop(2), Check.NULL);
        C.due("status()", x.status(), 1);
        C.due("what is there", x.drop(1), 1);
    }

    private static void rowsAreCounted() {
        C.sentence("count: How many: 0 ROWS");
        BumperBalls x = new BumperBalls();
        for (int row = 0; row < 8; row++) {
            x.row(row, row % 3, row * 5);
            C.due("count(0)", x.count(0), row + 1);
        }
        x.row(7, 0, 0);
        C.due("one in place of another", x.count(0), 8);
        for (int row = 0; row < 8; row++) {
            x.drop(row);
            C.due("count(0)", x.count(0), 7 - row);
        }
    }
}
