/** Promises 6 to 8: the tape, and what is read from it. */
final class TextTest {
    private static final Check C = new Check("texts");

    public static void main(String[] args) {
        promise6Feed();
        promise7Tables();
        promise7Stays();
        promise7Begins();
        promise7Faults();
        promise7FirstFault();
        promise8Fault();
        C.end();
    }

    private static void promise6Feed() {
        BumperBalls x = new BumperBalls();
        C.due("feed 1", x.feed(0x6c, 1), 1);
        C.due("feed 2", x.feed(0x6177, 2), 3);
        for (int bad : new int[] {0, -1, 9, Integer.MIN_VALUE, Integer.MAX_VALUE}) {
            C.due("feed n " + bad, x.feed(1, bad), Check.BAD);
        }
        // Bytes above the lowest n do not come.
        C.due("feed the lowest", x.feed(0x2020202020202020L << 24 | 0x20393b, 3), 6);
        C.due("count(5)", x.count(5), 6);
        Check.feed(x, "ball 6 5 3;");
        C.due("table()", x.table(), 0);
        C.due("count(5)", x.count(5), 0);
        C.due("tilt", x.count(4), 9);
        for (int k = 1; k <= 49; k++) {
            C.due("feed 8, " + k, x.feed(-1, 8), 8 * k);
        }
        C.due("feed 7", x.feed(-1, 7), 399);
        C.due("feed 2 to 399", x.feed(0, 2), Check.FULL);
        C.due("feed 9 to 399", x.feed(0, 9), Check.BAD);
        C.due("count(5)", x.count(5), 399);
        C.due("feed 1 to 399", x.feed(0, 1), 400);
        C.due("feed 1 to 400", x.feed(0, 1), Check.FULL);
        C.due("table()", x.table(), -1000100);
        C.due("feed behind it", x.feed(0, 1), 1);
    }

    private static void due(String text, int want) {
        C.due("'" + text + "'", Check.read(new BumperBalls(), text), want);
    }

    private static void promise7Tables() {
        due("law 1;ball 0 0 0;", 0);
        due("law 20;ball 6 5 3;", 0);
        due("law1;ball0 0 0;", 0);
        due("\n\n law\n 001 ;\nball 00 000\n0 ; \n", 0);
        due("law 5;pin bumper 0 0 0 0;ball 1 0 0;", 1);
        due("law 5;pin lefter6 5 7 99;pin righter 0 0 0 0;pin lamp 1 1 1 1;pin gate 2 2 2 2;ball 1 0 0;", 4);
        due(sixPins() + "ball 6 0 0;", 6);
        BumperBalls x = Check.with("law 5;pin lefter6 5 7 99;pin gate 2 3 1 4;ball 1 2 3;");
        C.due("cell", x.pin(0, 0), 41);
        C.due("letter", x.pin(0, 1), 7);
        C.due("pays", x.pin(0, 2), 99);
        C.due("cell", x.pin(1, 0), 23);
        C.due("ball", x.ball(0), 15);
        C.due("way", x.ball(1), 3);
        C.due("count(1)", x.count(1), 2);
        C.due("count(4)", x.count(4), 5);
        wholeTape();
    }

    private static String sixPins() {
        StringBuilder text = new StringBuilder("law 5;");
        for (int k = 0; k < 6; k++) {
            text.append("pin lamp ").append(k).append(" 1 0 1;");
        }
        return text.toString();
    }

    private static void wholeTape() {
        StringBuilder text = new StringBuilder("law 7;ball 3 3 3;");
        while (text.length() < 400) {
            text.append(text.length() % 2 == 0 ? ' ' : '\n');
        }
        due(text.toString(), 0);
        text.setCharAt(399, 'a');
        due(text.toString(), -1000100 - 399);
        text.setCharAt(399, ' ');
        text.setCharAt(16, ' ');
        due(text.toString(), -1000100 - 400);
    }

    /** A fault leaves all but the tape. */
    private static void promise7Stays() {
        BumperBalls x = Check.with("law 9;pin bumper 3 3 2 5;ball 3 0 0;");
        x.steps(4);
        x.nudge();
        C.due("fault", Check.read(x, "law 5;pin gate 1 1 1 1;ball 0 0 1;;"), -1000100 - 34);
        C.due("count(5)", x.count(5), 0);
        C.due("count(1)", x.count(1), 1);
        C.due("count(2)", x.count(2), 4);
        C.due("count(3)", x.count(3), 5);
        C.due("count(4)", x.count(4), 9);
        C.due("kind(0)", x.kind(0), 1);
        C.due("pin cell", x.pin(0, 0), 24);
        C.due("struck", x.pin(0, 3), 1);
        C.due("cell", x.ball(0), 17);
        C.due("way", x.ball(1), 3);
        C.due("shakes", x.ball(3), 3);
        C.due("score", x.ball(4), 5);
        C.due("lit", x.ball(5), 2);
    }

    /** A table that is read begins anew; images and rows stay. */
    private static void promise7Begins() {
        BumperBalls x = Check.with("law 9;pin gate 3 3 2 5;ball 3 0 0;");
        x.row(1, 1, 9);
        x.steps(4);
        x.nudge();
        x.image(1);
        C.due("open", x.pin(0, 4), 1);
        C.due("read", Check.read(x, "law 8;pin gate 3 3 2 5;ball 4 0 0;"), 1);
        C.due("shut", x.pin(0, 4), 0);
        C.due("not struck", x.pin(0, 3), 0);
        C.due("cell", x.ball(0), 4);
        C.due("way", x.ball(1), 0);
        C.due("not lost", x.ball(2), 0);
        C.due("shakes", x.ball(3), 0);
        C.due("score", x.ball(4), 0);
        C.due("lit", x.ball(5), -1);
        C.due("steps", x.count(2), 0);
        C.due("acts", x.count(3), 0);
        C.due("tilt", x.count(4), 8);
        C.due("undo()", x.undo(), Check.STATE);
        C.due("rows", x.count(0), 1);
        C.due("restore(1)", x.restore(1), 1);
        C.due("score", x.ball(4), 5);
        Check.read(x, "law 1;ball 0 0 2;");
        x.steps(1);
        C.due("lost", x.ball(2), 1);
        Check.read(x, "law 1;ball 0 0 2;");
        C.due("not lost", x.ball(2), 0);
        C.due("pin that is gone", x.pin(0, 0), Check.BAD);
        C.due("cell where it was", x.put(24, 0), 96);
    }

    private static void fault(String text, int place, int number) {
        BumperBalls x = new BumperBalls();
        C.due("'" + text + "'", Check.read(x, text), -1000100 - place);
        C.due("fault() of '" + text + "'", x.fault(), number);
        C.due("no table of '" + text + "'", x.ball(0), Check.STATE);
    }

    private static void promise7Faults() {
        fault("", 0, 1);
        fault(" \n ", 3, 1);
        fault("law", 3, 1);
        fault("law  ", 5, 1);
        fault("lax 1;", 0, 1);
        fault(" lawn 1;", 1, 1);
        fault("la w 1;", 0, 1);
        fault("saw 1;", 0, 1);
        fault("lew 1;", 0, 1);
        fault("alaw 1;", 0, 1);
        fault("lawz 1;", 0, 1);
        fault("lawA1;", 3, 1);
        fault("law`1;", 3, 1);
        fault("law{1;", 3, 1);
        fault("law/1;", 3, 1);
        fault("law -1;", 4, 1);
        fault("law 1/;", 5, 1);
        fault("law 1.0;", 5, 1);
        fault("law\0001;", 3, 1);
        fault("law\u00a01;", 3, 1);
        fault("law 10000000000;", 4, 1);
        fault("law 4294967297;", 4, 1);
        fault("Law 1;", 0, 1);
        fault("ball 0 0 0;", 0, 1);
        fault("law;", 3, 1);
        fault("law x;", 4, 1);
        fault("law 0;", 4, 2);
        fault("law 21;", 4, 2);
        fault("law 999;", 4, 2);
        fault("law 0001;", 4, 1);
        fault("law 1 1;", 6, 1);
        fault("law 1:", 5, 1);
        fault("law 1;", 6, 1);
        fault("law 1;law 1;", 6, 1);
        fault("law 1;;", 6, 1);
        fault("law\t1;", 3, 1);
        fault("law\r1;", 3, 1);
        fault("law 1;ball 7 0 0;", 11, 2);
        fault("law 1;ball 0 6 0;", 13, 2);
        fault("law 1;ball 0 0 4;", 15, 2);
        fault("law 1;ball 0 0 0", 16, 1);
        fault("law 1;ball 0 0;", 14, 1);
        fault("law 1;ball 0 0 0 0;", 17, 1);
        fault("law 1;ball 0 0 0;ball 0 0 0;", 17, 1);
        fault("law 1;ball 0 0 0;pin lamp 1 1 1 1;", 17, 1);
        fault("law 1;ball 0 0 0;\u00ff", 17, 1);
        fault("law 1;pinlamp 0 0 0 0;ball 1 0 0;", 6, 1);
        fault("law 1;pin 0 0 0 0;", 10, 1);
        fault("law 1;pin pin 0 0 0 0;", 10, 1);
        fault("law 1;pin bumpers 0 0 0 0;", 10, 1);
        fault("law 1;pin bumpe 0 0 0 0;", 10, 1);
        fault("law 1;pin lamp 7 0 0 0;", 15, 2);
        fault("law 1;pin lamp 0 6 0 0;", 17, 2);
        fault("law 1;pin lamp 0 0 8 0;", 19, 2);
        fault("law 1;pin lamp 0 0 0 100;", 21, 2);
        fault("law 1;pin lamp 0 0 0 1000;", 21, 1);
        fault("law 1;pin lamp 0 0 0;", 20, 1);
        fault("law 1;pin lamp 0 0 0 0 ball 1 1 1;", 23, 1);
        fault("law 1;pin lamp 1 2 0 0;pin gate 1 2 3 4;", 34, 2);
        fault("law 1;pin lamp 1 2 0 0;ball 1 2 0;", 30, 2);
        fault("law 1;pin lamp 1 2 0 0;", 23, 1);
    }

    private static void promise7FirstFault() {
        fault("law 0 pin;", 4, 2);
        fault("law 1;pin lamp 7 9 9 999;", 15, 2);
        fault("law 1;pin lamp 1 2 8 0;pin lamp 1 2 8 0;", 19, 2);
        String six = sixPins();
        fault(six + "pin lamp 0 2 0 1;ball 6 0 0;", six.length(), 3);
        fault(six + "pin", six.length(), 3);
        fault(six + "pins", six.length(), 1);
        fault(six + " \npin x", six.length() + 2, 3);
        fault(six + "lamp", six.length(), 1);
        fault(six, six.length(), 1);
    }

    private static void promise8Fault() {
        BumperBalls x = new BumperBalls();
        C.due("ahead of one", x.fault(), 0);
        Check.read(x, "law 3;ball 0 0 0;");
        C.due("behind a table", x.fault(), 0);
        Check.read(x, "law 0;");
        C.due("latest", x.fault(), 2);
        Check.read(x, "law 3;ball 0 0 0;");
        C.due("stays", x.fault(), 2);
        Check.read(x, "low");
        C.due("latest", x.fault(), 1);
    }
}
