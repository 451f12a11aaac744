/** Promises 1 to 5, and of 29 what rows tell. */
final class RowsTest {
    private static final Check C = new Check("rows");
    private static final int MIN = Integer.MIN_VALUE, MAX = Integer.MAX_VALUE;

    public static void main(String[] args) {
        promise1New();
        promise2Row();
        promise3Set();
        promise4Copy();
        promise4Overlap();
        promise5Drop();
        promise29Status();
        C.end();
    }

    private static void promise1New() {
        BumperBalls x = new BumperBalls();
        for (int what = 0; what < 6; what++) {
            C.due("new: count(" + what + ")", x.count(what), 0);
        }
        C.due("new: ball(0)", x.ball(0), Check.STATE);
        C.due("new: ball(9)", x.ball(9), Check.STATE);
        C.due("new: pin(0, 0)", x.pin(0, 0), Check.BAD);
        C.due("new: fault()", x.fault(), 0);
        C.due("new: status()", x.status(), 0);
        C.due("new: undo()", x.undo(), Check.STATE);
        C.due("new: trace(0)", x.trace(0), Check.NONE);
        C.due("new: restore(1)", x.restore(1), Check.STATE);
        for (int row = 0; row < 8; row++) {
            C.due("new: drop(" + row + ")", x.drop(row), Check.NULL);
        }
    }

    private static void promise2Row() {
        BumperBalls x = new BumperBalls();
        C.due("row(0, 0, 0)", x.row(0, 0, 0), 0);
        C.due("row(7, 2, 40)", x.row(7, 2, 40), 40);
        C.due("count(0)", x.count(0), 2);
        C.due("row(7, 1, 3)", x.row(7, 1, 3), 3);
        C.due("count(0)", x.count(0), 2);
        C.due("set(7, 3, 1)", x.set(7, 3, 1), Check.PLACE);
        for (int bad : new int[] {-1, 8, MIN, MAX}) {
            C.due("row(" + bad + ", 0, 1)", x.row(bad, 0, 1), Check.BAD);
        }
        for (int bad : new int[] {-1, 3, MIN, MAX}) {
            C.due("row(0, " + bad + ", 1)", x.row(0, bad, 1), Check.BAD);
        }
        C.due("row(0, 0, 41)", x.row(0, 0, 41), Check.BAD);
        C.due("row(0, 0, MAX)", x.row(0, 0, MAX), Check.BAD);
        C.due("row(7, 0, -1)", x.row(7, 0, -1), Check.SIZE);
        C.due("row(7, 0, MIN)", x.row(7, 0, MIN), Check.SIZE);
        C.due("row(7, 3, -1)", x.row(7, 3, -1), Check.BAD);
        C.due("row(8, 0, -1)", x.row(8, 0, -1), Check.BAD);
        C.due("drop(7) behind refusals", x.drop(7), 3);
        itemsAreZeroAtFirst();
    }

    private static void itemsAreZeroAtFirst() {
        BumperBalls x = Check.with("law 5;pin lamp 3 3 0 1;ball 0 0 1;");
        Check.fill(x, 2, 7, 7, 7);
        C.due("heard 7", x.heard(2, 0, 1, 0), 0);
        x.row(2, 0, 3);
        C.due("heard 0", x.heard(2, 0, 1, 1), 12);
        C.due("heard 0", x.heard(2, 2, 1, 1), 12);
    }

    private static void promise3Set() {
        BumperBalls x = new BumperBalls();
        x.row(0, 0, 2);
        x.row(1, 1, 2);
        x.row(2, 2, 2);
        C.due("byte 127", x.set(0, 0, 127), 127);
        C.due("byte 128", x.set(0, 0, 128), -128);
        C.due("byte 255", x.set(0, 1, 255), -1);
        C.due("byte 256", x.set(0, 1, 256), 0);
        C.due("byte -129", x.set(0, 1, -129), 127);
        C.due("short 128", x.set(1, 0, 128), 128);
        C.due("short 32768", x.set(1, 1, 32768), -32768);
        C.due("short 65535", x.set(1, 1, 65535), -1);
        C.due("short -40000", x.set(1, 1, -40000), 25536);
        C.due("int MIN", x.set(2, 0, MIN), MIN);
        C.due("int MAX", x.set(2, 1, MAX), MAX);
        C.due("set(-1, 0, 0)", x.set(-1, 0, 0), Check.BAD);
        C.due("set(8, 0, 0)", x.set(8, 0, 0), Check.BAD);
        C.due("set(3, 9, 0)", x.set(3, 9, 0), Check.NULL);
        for (int place : new int[] {-1, 2, 39, 40, MIN, MAX}) {
            C.due("set(0, " + place + ", 0)", x.set(0, place, 0), Check.PLACE);
        }
    }

    private static void promise4Copy() {
        BumperBalls x = new BumperBalls();
        x.row(0, 0, 4);
        x.row(1, 0, 2);
        x.row(2, 1, 4);
        C.due("copy all", x.copy(0, 0, 1, 0, 2), 2);
        C.due("copy none at the ends", x.copy(0, 4, 1, 2, 0), 0);
        C.due("copy a -1", x.copy(-1, 0, 1, 0, 1), Check.BAD);
        C.due("copy b 8", x.copy(0, 0, 8, 0, 1), Check.BAD);
        C.due("copy BAD ahead of NULL", x.copy(7, 0, 8, 0, 1), Check.BAD);
        C.due("copy a missing", x.copy(7, 0, 0, 0, 1), Check.NULL);
        C.due("copy b missing", x.copy(0, 0, 7, 0, 1), Check.NULL);
        C.due("copy NULL ahead of PLACE", x.copy(0, -1, 7, 0, 1), Check.NULL);
        C.due("copy two lanes", x.copy(0, 0, 2, 0, 1), Check.STORE);
        C.due("copy STORE ahead of PLACE", x.copy(2, -1, 1, 9, -1), Check.STORE);
        C.due("copy none of two lanes", x.copy(2, 0, 1, 0, 0), Check.STORE);
        C.due("copy i -1", x.copy(0, -1, 1, 0, 1), Check.PLACE);
        C.due("copy j -1", x.copy(0, 0, 1, -1, 1), Check.PLACE);
        C.due("copy n -1", x.copy(0, 0, 1, 0, -1), Check.PLACE);
        C.due("copy beyond a", x.copy(0, 3, 1, 0, 2), Check.PLACE);
        C.due("copy beyond b", x.copy(0, 0, 1, 1, 2), Check.PLACE);
        C.due("copy none beyond a", x.copy(0, 5, 1, 0, 0), Check.PLACE);
        C.due("copy none beyond b", x.copy(0, 0, 1, 3, 0), Check.PLACE);
        C.due("copy MAX from 1", x.copy(0, 1, 1, 0, MAX), Check.PLACE);
        C.due("copy from MAX", x.copy(0, MAX, 1, 0, 1), Check.PLACE);
        C.due("copy to MAX", x.copy(0, 0, 1, MAX, 2), Check.PLACE);
        C.due("copy MIN", x.copy(0, 0, 1, 0, MIN), Check.PLACE);
    }

    /** What the rows hold is heard: lamps 0, 1, 2, 3 stand in a line. */
    private static void promise4Overlap() {
        String text = "law 5;pin lamp 1 5 0 1;pin lamp 2 5 1 1;pin lamp 3 5 2 1;pin lamp 4 5 3 1;ball 0 0 1;";
        BumperBalls x = Check.with(text);
        Check.fill(x, 0, 0, 1, 2, 3, 9);
        C.due("copy to the right", x.copy(0, 0, 0, 1, 4), 4);
        C.due("0 0 1 2 3: the last four", x.heard(0, 1, 4, 1), 4 * 35 + 1);
        C.due("0 0: none", x.heard(0, 0, 2, 0), 0);
        Check.fill(x, 1, 9, 0, 1, 2, 3);
        C.due("copy to the left", x.copy(1, 1, 1, 0, 4), 4);
        C.due("0 1 2 3 3", x.heard(1, 0, 4, 1), 4 * 35 + 1);
        C.due("the last stays", x.heard(1, 4, 1, 1), x.heard(1, 3, 1, 1));
        Check.fill(x, 2, 5, 5, 5);
        C.due("copy to another", x.copy(1, 0, 2, 1, 2), 2);
        C.due("5 0 1: the last two", x.heard(2, 1, 2, 1), 4 * 35 + 1);
        C.due("what was copied stays", x.heard(1, 0, 4, 1), 4 * 35 + 1);
    }

    private static void promise5Drop() {
        BumperBalls x = new BumperBalls();
        x.row(3, 2, 17);
        x.row(4, 0, 0);
        C.due("drop(3)", x.drop(3), 17);
        C.due("drop(3) again", x.drop(3), Check.NULL);
        C.due("drop(4)", x.drop(4), 0);
        C.due("count(0)", x.count(0), 0);
        C.due("drop(-1)", x.drop(-1), Check.BAD);
        C.due("drop(8)", x.drop(8), Check.BAD);
        C.due("set(3, 0, 0)", x.set(3, 0, 0), Check.NULL);
        C.due("row(3, 0, 2)", x.row(3, 0, 2), 2);
        C.due("drop(3)", x.drop(3), 2);
    }

    private static void promise29Status() {
        BumperBalls x = new BumperBalls();
        x.drop(0);
        C.due("NULL", x.status(), 1);
        x.row(0, 0, 41);
        x.set(9, 0, 0);
        x.copy(0, 0, 9, 0, 0);
        x.drop(9);
        x.heard(0, 0, 1, 0);
        x.as(0, 0);
        C.due("what is BAD, STATE leaves it", x.status(), 1);
        x.row(0, 0, -1);
        C.due("SIZE", x.status(), 4);
        x.feed(0, 1);
        x.table();
        C.due("other calls leave it", x.status(), 4);
        x.row(0, 0, 2);
        C.due("row: none", x.status(), 0);
        x.set(0, 2, 1);
        C.due("PLACE", x.status(), 2);
        x.set(0, 1, 1);
        C.due("set: none", x.status(), 0);
        x.row(1, 1, 2);
        x.copy(0, 0, 1, 0, 1);
        C.due("STORE", x.status(), 5);
        x.copy(0, 0, 0, 1, 1);
        C.due("copy: none", x.status(), 0);
        x.copy(0, 0, 0, 1, 2);
        C.due("copy: PLACE", x.status(), 2);
        x.drop(1);
        C.due("drop: none", x.status(), 0);
    }
}
