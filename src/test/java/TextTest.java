/** Promises 6 to 8, the texts and faults of part 1 of the terms. A test for each sentence that names a boundary. */
final class TextTest {
    private static final Check C = new Check("texts");
    private static final int MIN = Check.MIN, MAX = Check.MAX;
    private static final int FAULT = -1000100;
    private static final String BLANKS = " ".repeat(400);
    // The tokens of a text; numbers that stand side by side are alike.
    private static final String[] TOKENS = {"law", "5", ";", "pin", "lamp", "1", "1", "1", "1", ";", "ball", "2", "2", "2", ";"};

    public static void main(String[] args) {
        oneToEightBytes();
        theHighestFirst();
        theLowestBytes();
        fourHundredBytes();
        noneComes();
        aWholeTapeIsRead();
        everyByteAhead();
        everyByteBetween();
        everyByteBehind();
        everyByteAsSign();
        blanksAreNotNeeded();
        asManyBlanksAsWanted();
        threeFiguresAtMost();
        words();
        tilts();
        cellsOfPins();
        letters();
        pays();
        cellsOfBalls();
        ways();
        pinsOnPins();
        ballsOnPins();
        sixPinsAtMost();
        noPins();
        whatWasRead();
        aTokenLess();
        aTokenTwice();
        anEndTooEarly();
        theEndIsAllBytes();
        theFirstTokenThatHasOne();
        ofOneTokenTheLeast();
        emptyThen();
        allButTheTapeStays();
        inPlaceOfTheOneBefore();
        imagesAndRowsStay();
        theLatestFault();
        bytesOnTheTape();
        C.end();
    }

    private static void oneToEightBytes() {
        C.sentence("The lowest n bytes of w (1 to 8)");
        BumperBalls x = new BumperBalls();
        int had = 0;
        for (int n = 1; n <= 8; n++) {
            had += n;
            C.due("feed(0, " + n + ")", x.feed(0, n), had);
        }
        for (int bad : new int[] {0, -1, 9, MIN, MAX}) {
            C.due("feed(0, " + bad + ")", x.feed(0, bad), Check.BAD);
        }
        C.due("count(5)", x.count(5), 36);
    }

    private static void theHighestFirst() {
        C.sentence("the highest of them first, come behind the tape");
        BumperBalls x = new BumperBalls();
        C.due("' law 12;'", x.feed(0x206c61772031323bL, 8), 8);
        C.due("'ball'", x.feed(0x62616c6cL, 4), 12);
        C.due("' 3 4 1;'", x.feed(0x20332034203120L, 7), 19);
        C.due("';'", x.feed(0x3b, 1), 20);
        C.due("table()", x.table(), 0);
        C.due("tilt", x.count(4), 12);
        C.due("ball(0)", x.ball(0), 31);
        C.due("ball(1)", x.ball(1), 1);
        // The highest bit of eight bytes is one of a byte that is no token.
        C.due("feed of -1", x.feed(-1, 8), 8);
        C.due("table()", x.table(), FAULT);
        C.due("feed of ' ' and one that is above", x.feed(0x20202020202020a0L, 8), 8);
        C.due("table()", x.table(), FAULT - 7);
        C.due("feed of the same the other way round", x.feed(0xa020202020202020L, 8), 8);
        C.due("table()", x.table(), FAULT);
    }

    private static void theLowestBytes() {
        C.sentence("The lowest n bytes of w");
        BumperBalls x = new BumperBalls();
        C.due("'law'", x.feed(0xffffffffff6c6177L, 3), 3);
        C.due("'8'", x.feed(0x7878787878787838L, 1), 4);
        C.due("';ball'", x.feed(0x3131313b62616c6cL, 5), 9);
        C.due("' 1 2 3;'", x.feed(0x62203120322033L, 6), 15);
        C.due("';'", x.feed(0x3b3bL, 1), 16);
        C.due("table()", x.table(), 0);
        C.due("tilt", x.count(4), 8);
        C.due("ball(0)", x.ball(0), 15);
    }

    private static BumperBalls withBytes(int n) {
        BumperBalls x = new BumperBalls();
        Check.feed(x, BLANKS.substring(0, n));
        C.due("bytes ahead", x.count(5), n);
        return x;
    }

    private static void fourHundredBytes() {
        C.sentence("THE TAPE has at most 400 bytes");
        for (int n = 1; n <= 8; n++) {
            BumperBalls fits = withBytes(400 - n);
            C.due("feed(0, " + n + ") to " + (400 - n), fits.feed(0, n), 400);
            C.due("one more", fits.feed(0, 1), Check.FULL);
            BumperBalls full = withBytes(401 - n);
            C.due("feed(0, " + n + ") to " + (401 - n), full.feed(0, n), Check.FULL);
            C.due("count(5)", full.count(5), 401 - n);
        }
    }

    private static void noneComes() {
        C.sentence("FULL: none comes.");
        BumperBalls x = new BumperBalls();
        Check.feed(x, "law 5;ball 0 0 1;" + BLANKS.substring(0, 400 - 17 - 3));
        C.due("four for three", x.feed(0x78787878L, 4), Check.FULL);
        C.due("count(5)", x.count(5), 397);
        C.due("table()", x.table(), 0);
        BumperBalls y = withBytes(393);
        C.due("eight for seven", y.feed(-1, 8), Check.FULL);
        C.due("seven for seven", y.feed(0, 7), 400);
        C.due("table()", y.table(), FAULT - 393);
    }

    private static void due(String text, int want) {
        C.due("'" + text + "'", Check.read(new BumperBalls(), text), want);
    }

    private static void fault(String text, int place, int number) {
        BumperBalls x = new BumperBalls();
        C.due("'" + text + "'", Check.read(x, text), FAULT - place);
        C.due("fault() of '" + text + "'", x.fault(), number);
        C.due("no table of '" + text + "'", x.ball(0), Check.STATE);
    }

    private static void aWholeTapeIsRead() {
        C.sentence("the end: how many bytes there are: 400");
        String text = "law 7;ball 3 3 3;";
        due(text + BLANKS.substring(17), 0);
        due(BLANKS.substring(17) + text, 0);
        fault(BLANKS, 400, 1);
        fault(BLANKS.substring(1) + "x", 399, 1);
        fault(text + BLANKS.substring(18) + ";", 399, 1);
        fault(BLANKS.substring(16) + text.substring(0, 16), 400, 1);
    }

    private static boolean isBlank(int b) {
        return b == 32 || b == 10;
    }

    private static void everyByteAhead() {
        C.sentence("bytes 32 and 10 ahead of these");
        for (int b = 0; b < 256; b++) {
            String text = (char) b + "law 5;ball 0 0 1;";
            if (isBlank(b)) {
                due(text, 0);
            } else {
                fault(text, 0, 1);
            }
        }
    }

    /** Between a name and a number: a letter makes another name, a figure another number. */
    private static void everyByteBetween() {
        C.sentence("bytes 32 and 10 between these");
        for (int b = 0; b < 256; b++) {
            String text = "law" + (char) b + "9;ball 0 0 1;";
            if (isBlank(b) || b == '0' || b == '1') {
                due(text, 0);
            } else if (b >= '2' && b <= '9') {
                fault(text, 3, 2);
            } else {
                fault(text, b >= 'a' && b <= 'z' ? 0 : 3, 1);
            }
        }
    }

    private static void everyByteBehind() {
        C.sentence("bytes 32 and 10 behind these");
        for (int b = 0; b < 256; b++) {
            String text = "law 5;ball 0 0 1;" + (char) b;
            if (isBlank(b)) {
                due(text, 0);
            } else {
                fault(text, 17, 1);
            }
        }
    }

    private static void everyByteAsSign() {
        C.sentence("SIGNS ;");
        for (int b = 0; b < 256; b++) {
            String text = "law 5" + (char) b + "ball 0 0 1;";
            if (b == ';') {
                due(text, 0);
            } else if (isBlank(b)) {
                fault(text, 6, 1);
            } else if (b >= '0' && b <= '9') {
                fault(text, 4, 2);
            } else {
                fault(text, 5, 1);
            }
        }
    }

    private static void blanksAreNotNeeded() {
        C.sentence("none is needed where one ends without");
        due("law5;ball0 0 0;", 0);
        due("law5;pin lamp0 0 0 0;ball1 1 1;", 1);
        fault("law5;ball00 0;", 13, 1);
        fault("law5;ball10 0 0;", 9, 2);
        fault("law5;pinlamp0 0 0 0;ball1 1 1;", 5, 1);
        fault("law5;pin lamp0 0 00;ball1 1 1;", 19, 1);
        fault("law5;pin lamp0 00 0;ball1 1 1;", 19, 1);
        fault("law5;pin lamp0 0 0 0;ballball1 1 1;", 21, 1);
        fault("la w5;ball0 0 0;", 0, 1);
    }

    private static void asManyBlanksAsWanted() {
        C.sentence("as many as wanted");
        due("\n\n law\n 001 ;\nball 00 000\n0 ; \n", 0);
        String many = " \n".repeat(20);
        StringBuilder text = new StringBuilder(many);
        for (String token : new String[] {"law", "5", ";", "ball", "0", "0", "1", ";"}) {
            text.append(token).append(many);
        }
        due(text.toString(), 0);
    }

    private static void threeFiguresAtMost() {
        C.sentence("NUMBERS (figures, 3 at most); a run of four figures or more, at its first");
        due("law 5;ball 0 0 1;", 0);
        due("law 05;ball 00 00 01;", 0);
        due("law 005;ball 000 000 001;", 0);
        fault("law 0005;ball 0 0 1;", 4, 1);
        fault("law 0020;ball 0 0 1;", 4, 1);
        fault("law 5;ball 0000 0 1;", 11, 1);
        fault("law 5;ball 0 0 00001;", 15, 1);
        fault("law 999;ball 0 0 1;", 4, 2);
        fault("law 1000;ball 0 0 1;", 4, 1);
        fault("law 4294967301;ball 0 0 1;", 4, 1);
        fault("law 18446744073709551621;ball 0 0 1;", 4, 1);
        fault("0005 law 5;", 0, 1);
        fault("law 5;ball 0 0 1;1234", 17, 1);
    }

    private static void words() {
        C.sentence("NAMES (letters a to z)");
        String[] all = {"law", "pin", "ball", "bumper", "lefter", "righter", "lamp", "gate"};
        String[] heads = {"", "law 5;", "law 5;pin lamp 1 1 1 1;", "law 5;pin ", "law 5;pin ", "law 5;pin ", "law 5;pin ",
            "law 5;pin "};
        String[] tails = {" 5;ball 0 0 1;", " lamp 1 1 1 1;ball 0 0 1;", " 0 0 1;", " 1 1 1 1;ball 0 0 1;", " 1 1 1 1;ball 0 0 1;",
            " 1 1 1 1;ball 0 0 1;", " 1 1 1 1;ball 0 0 1;", " 1 1 1 1;ball 0 0 1;"};
        for (int k = 0; k < all.length; k++) {
            String word = all[k];
            due(heads[k] + word + tails[k], k == 0 ? 0 : 1);
            fault(heads[k] + word + "s" + tails[k], heads[k].length(), 1);
            fault(heads[k] + "a" + word + tails[k], heads[k].length(), 1);
            fault(heads[k] + word.substring(1) + tails[k], heads[k].length(), 1);
            fault(heads[k] + word.substring(0, word.length() - 1) + tails[k], heads[k].length(), 1);
            fault(heads[k] + word.toUpperCase() + tails[k], heads[k].length(), 1);
            for (int at = 0; at < word.length(); at++) {
                String other = word.substring(0, at) + (char) (word.charAt(at) + 1) + word.substring(at + 1);
                fault(heads[k] + other + tails[k], heads[k].length(), 1);
            }
        }
    }

    /** The numbers from least to most stand in a text, one more and one less do not. */
    private static void numbers(String head, String tail, int most, int pins) {
        for (int number = 0; number <= most; number++) {
            due(head + number + tail, pins);
        }
        fault(head + (most + 1) + tail, head.length(), 2);
        fault(head + 999 + tail, head.length(), 2);
        fault(head + "-1" + tail, head.length(), 1);
    }

    private static void tilts() {
        C.sentence("'law' TILT ';' (1 to 20)");
        for (int tilt = 1; tilt <= 20; tilt++) {
            BumperBalls x = Check.with("law " + tilt + ";ball 0 0 1;");
            C.due("count(4)", x.count(4), tilt);
        }
        fault("law 0;ball 0 0 1;", 4, 2);
        fault("law 000;ball 0 0 1;", 4, 2);
        fault("law 21;ball 0 0 1;", 4, 2);
        fault("law 99;ball 0 0 1;", 4, 2);
        fault("law -1;ball 0 0 1;", 4, 1);
    }

    private static void cellsOfPins() {
        C.sentence("'pin' SORT X Y (0 to 6; 0 to 5)");
        numbers("law 5;pin lamp ", " 3 0 0;ball 0 0 1;", 6, 1);
        numbers("law 5;pin lamp 3 ", " 0 0;ball 0 0 1;", 5, 1);
        BumperBalls x = Check.with("law 5;pin lamp 0 0 0 0;pin lamp 6 0 0 0;pin lamp 0 5 0 0;pin lamp 6 5 0 0;ball 3 3 1;");
        int[] corners = {0, 6, 35, 41};
        for (int pin = 0; pin < 4; pin++) {
            C.due("pin(" + pin + ", 0)", x.pin(pin, 0), corners[pin]);
        }
    }

    private static void letters() {
        C.sentence("LETTER 0 to 7");
        numbers("law 5;pin lamp 1 3 ", " 0;ball 0 0 1;", 7, 1);
        BumperBalls x = Check.with("law 5;pin lamp 1 1 0 0;pin gate 2 2 7 0;ball 3 3 1;");
        C.due("pin(0, 1)", x.pin(0, 1), 0);
        C.due("pin(1, 1)", x.pin(1, 1), 7);
    }

    private static void pays() {
        C.sentence("PAYS 0 to 99");
        numbers("law 5;pin lamp 1 3 2 ", ";ball 0 0 1;", 99, 1);
        BumperBalls x = Check.with("law 5;pin lamp 1 1 0 0;pin gate 2 2 7 99;ball 3 3 1;");
        C.due("pin(0, 2)", x.pin(0, 2), 0);
        C.due("pin(1, 2)", x.pin(1, 2), 99);
    }

    private static void cellsOfBalls() {
        C.sentence("'ball' X Y (0 to 6; 0 to 5)");
        numbers("law 5;ball ", " 3 1;", 6, 0);
        numbers("law 5;ball 3 ", " 1;", 5, 0);
        int[] corners = {0, 6, 35, 41};
        for (int corner : corners) {
            BumperBalls x = Check.with("law 5;ball " + corner % 7 + " " + corner / 7 + " 1;");
            C.due("ball(0)", x.ball(0), corner);
        }
    }

    private static void ways() {
        C.sentence("WAY 0 to 3");
        numbers("law 5;ball 3 3 ", ";", 3, 0);
        for (int way = 0; way < 4; way++) {
            BumperBalls x = Check.with("law 5;ball 3 3 " + way + ";");
            C.due("ball(1)", x.ball(1), way);
        }
    }

    private static void pinsOnPins() {
        C.sentence("2 a NUMBER that is not as told (the Y of a pin on a pin)");
        String one = "law 1;pin lamp 1 2 0 0;";
        due(one + "pin gate 1 3 4 5;ball 0 0 0;", 2);
        due(one + "pin gate 2 2 4 5;ball 0 0 0;", 2);
        due(one + "pin gate 2 1 4 5;ball 0 0 0;", 2);
        fault(one + "pin gate 1 2 4 5;ball 0 0 0;", 34, 2);
        fault(one + "pin lamp 2 2 0 0;pin gate 001 002 4 5;", 53, 2);
        fault(one + "pin lamp 2 2 0 0;pin gate 2 2 4 5;", 51, 2);
        BumperBalls x = Check.with(one + "ball 0 0 0;");
        C.due("pins of the table before do not matter", Check.read(x, "law 1;pin lamp 1 2 0 0;ball 0 0 0;"), 1);
        Check.read(x, one + one);
        C.due("nor those of a text with a fault", Check.read(x, "law 1;pin lamp 1 2 0 0;ball 0 0 0;"), 1);
    }

    private static void ballsOnPins() {
        C.sentence("2 a NUMBER that is not as told (the Y of a ball on a pin)");
        String two = "law 1;pin lamp 1 2 0 0;pin gate 6 5 0 0;";
        due(two + "ball 1 1 0;", 2);
        due(two + "ball 0 2 0;", 2);
        due(two + "ball 2 1 0;", 2);
        fault(two + "ball 1 2 0;", 47, 2);
        fault(two + "ball 6 5 0;", 47, 2);
        BumperBalls x = Check.with(two + "ball 0 0 0;");
        C.due("pins of the table before do not matter", Check.read(x, "law 1;ball 1 2 0;"), 0);
    }

    private static String pins(int n) {
        StringBuilder text = new StringBuilder("law 5;");
        for (int k = 0; k < n; k++) {
            text.append("pin lamp ").append(k).append(" 1 ").append(k).append(" 1;");
        }
        return text.toString();
    }

    private static void sixPinsAtMost() {
        C.sentence("PINS 0 .. 5, 6 at most; 3 a pin more than there is room for (its word)");
        for (int n = 0; n <= 6; n++) {
            BumperBalls x = Check.with(pins(n) + "ball 6 0 0;");
            C.due("count(1)", x.count(1), n);
            for (int pin = 0; pin < n; pin++) {
                C.due("pin(" + pin + ", 0)", x.pin(pin, 0), 7 + pin);
            }
            C.due("pin(" + n + ", 0)", x.pin(n, 0), Check.BAD);
        }
        String six = pins(6);
        int end = six.length();
        fault(six + "pin lamp 6 2 0 1;ball 6 0 0;", end, 3);
        fault(six + "pin", end, 3);
        fault(six + " \npin pin", end + 2, 3);
        fault(six + "pin lamp 9 9 9 999;", end, 3);
        fault(six + "pins", end, 1);
        fault(six + "lamp", end, 1);
        fault(six, end, 1);
    }

    private static void noPins() {
        C.sentence("table: law { pin } ball");
        due("law 5;ball 0 0 0;", 0);
        due("law 5;pin lamp 1 1 1 1;ball 0 0 0;", 1);
        fault("law 5;", 6, 1);
        fault("law 5;pin lamp 1 1 1 1;", 23, 1);
        fault("ball 0 0 0;", 0, 1);
        fault("pin lamp 1 1 1 1;ball 0 0 0;", 0, 1);
        fault("law 5;law 5;ball 0 0 0;", 6, 1);
        fault("law 5;ball 0 0 0;ball 0 0 0;", 17, 1);
        fault("law 5;ball 0 0 0;pin lamp 1 1 1 1;", 17, 1);
        fault("law 5;ball 0 0 0;law 5;ball 0 0 0;", 17, 1);
    }

    private static void whatWasRead() {
        C.sentence("SORT X Y LETTER PAYS");
        BumperBalls x = Check.with("law 6;pin gate 1 2 3 4;pin bumper 5 4 3 2;pin righter 6 0 0 99;pin lefter 0 5 7 0;"
            + "pin lamp 3 3 2 50;ball 4 1 3;");
        int[][] pins = {{5, 15, 3, 4}, {1, 33, 3, 2}, {3, 6, 0, 99}, {2, 35, 7, 0}, {4, 24, 2, 50}};
        for (int pin = 0; pin < 5; pin++) {
            C.due("kind(" + pin + ")", x.kind(pin), pins[pin][0]);
            for (int what = 0; what < 3; what++) {
                C.due("pin(" + pin + ", " + what + ")", x.pin(pin, what), pins[pin][what + 1]);
            }
        }
        C.due("ball(0)", x.ball(0), 11);
        C.due("ball(1)", x.ball(1), 3);
        C.due("count(4)", x.count(4), 6);
    }

    private static String joined(String[] tokens, int less, int twice, int end) {
        StringBuilder text = new StringBuilder();
        for (int k = 0; k < end; k++) {
            for (int times = k == less ? 0 : k == twice ? 2 : 1; times > 0; times--) {
                text.append(text.length() == 0 ? "" : " ").append(tokens[k]);
            }
        }
        return text.toString();
    }

    private static boolean isNumber(int k) {
        return Character.isDigit(TOKENS[k].charAt(0));
    }

    /** Numbers go on to the next sign: of k, or of a token behind it. */
    private static int signFrom(int k) {
        int sign = k;
        while (!TOKENS[sign].equals(";")) {
            sign++;
        }
        return sign;
    }

    private static void aTokenLess() {
        C.sentence("1 it cannot stand there: a token less");
        for (int k = 0; k < TOKENS.length; k++) {
            int wrong = isNumber(k) ? signFrom(k) : k + 1;
            String ahead = joined(TOKENS, k, -1, wrong);
            String text = joined(TOKENS, k, -1, TOKENS.length);
            fault(text, wrong == TOKENS.length ? text.length() : ahead.isEmpty() ? 0 : ahead.length() + 1, 1);
        }
    }

    private static void aTokenTwice() {
        C.sentence("1 it cannot stand there: a token twice");
        for (int k = 0; k < TOKENS.length; k++) {
            int wrong = isNumber(k) ? signFrom(k) : k + 1;
            String text = joined(TOKENS, -1, k, TOKENS.length);
            fault(text, joined(TOKENS, -1, -1, wrong).length() + 1, 1);
        }
    }

    private static void anEndTooEarly() {
        C.sentence("1 it is none (the end: how many bytes there are)");
        for (int k = 0; k < TOKENS.length; k++) {
            String text = joined(TOKENS, -1, -1, k);
            fault(text, text.length(), 1);
        }
        due(joined(TOKENS, -1, -1, TOKENS.length), 1);
    }

    private static void theEndIsAllBytes() {
        C.sentence("the end: how many bytes there are");
        fault("", 0, 1);
        fault(" ", 1, 1);
        fault(" \n ", 3, 1);
        fault("law", 3, 1);
        fault("law  ", 5, 1);
        fault("law 5;ball 0 0 0", 16, 1);
        fault("law 5;ball 0 0 0\n\n", 18, 1);
    }

    private static void theFirstTokenThatHasOne() {
        C.sentence("the first TOKEN that has one (its first byte)");
        fault("law 0 pin;", 4, 2);
        fault("law 21;pin lamp 7 9 9 999;", 4, 2);
        fault("law 1;pin lamp 7 9 9 999;", 15, 2);
        fault("law 1;pin lamp 6 9 9 999;", 17, 2);
        fault("law 1;pin lamp 6 5 9 999;", 19, 2);
        fault("law 1;pin lamp 6 5 7 999;", 21, 2);
        fault("law 1;pin lamp 6 5 7 99:", 23, 1);
        fault("law 1;pin lump 7 9 9 999;", 10, 1);
        fault("law 1;pin lamp 1 2 8 0;pin lamp 1 2 8 0;", 19, 2);
        fault("law 1;pin lamp 7 x", 15, 2);
        fault("law 1;ball 7 6 4;;", 11, 2);
        fault("law 1;ball 6 6 4;;", 13, 2);
        fault("law 1;ball 6 5 4;;", 15, 2);
        fault("law 1;ball 6 5 3;;", 17, 1);
        fault(pins(5) + "pin lamp 0 1 0 1;pin", pins(5).length() + 11, 2);
    }

    private static void ofOneTokenTheLeast() {
        C.sentence("of one TOKEN the least");
        fault("law 1000;", 4, 1);
        fault("law 1;ball 0 0 0004;", 15, 1);
        fault("law 1;pin lamp 1 2 0 0;pin lamp 1 0002 0 0;", 34, 1);
        String six = pins(6);
        fault(six + "ball 6 0 0;pin", six.length() + 11, 1);
        fault(six.substring(0, six.length() - 1) + " pin", six.length(), 1);
    }

    private static void emptyThen() {
        C.sentence("The tape, empty then, is read");
        BumperBalls x = new BumperBalls();
        C.due("table()", Check.read(x, "law 5;ball 0 0 1;"), 0);
        C.due("count(5)", x.count(5), 0);
        C.due("an empty one", x.table(), FAULT);
        C.due("a fault", Check.read(x, "law x"), FAULT - 4);
        C.due("count(5)", x.count(5), 0);
        C.due("feed(0, 1)", x.feed(0, 1), 1);
        C.due("an end in a longer one's bytes", x.table(), FAULT);
        Check.read(x, "law 5;ball 0 0 1;;");
        C.due("shorter than the one before", Check.read(x, "law 5;ball 0 0 1;"), 0);
    }

    /** The object stands as one that never read the text; its fault was of the same number before. */
    private static void allButTheTapeStays() {
        C.sentence("-1000100 less the place of a FAULT: all but the tape, and what fault() tells, stays.");
        String[] texts = {"law 0;", "law 20;ball 7 0 0;", "law 7;pin gate 3 3 3 3;ball 1 1 4;", "law 21;ball 1 1 1;"};
        int[] places = {4, 12, 32, 4};
        for (Twins kind : new Twins[] {Twins.BARE, Twins.PLAYED, Twins.LOST}) {
            for (int k = 0; k < texts.length; k++) {
                String text = texts[k];
                kind.unchanged(C, "'" + text + "'", x -> Check.read(x, text), FAULT - places[k], Twins.STATUS);
            }
        }
    }

    private static void inPlaceOfTheOneBefore() {
        C.sentence("no letter is LIT (-1), all gates are shut, nothing was STRUCK, SCORE, STEPS, SHAKES are 0; no ACT can be undone");
        String six = "pin gate 0 5 0 1;pin gate 1 5 1 1;pin gate 2 5 2 1;pin gate 3 5 3 1;pin gate 4 5 4 1;pin gate 5 5 5 1;";
        BumperBalls x = Check.with("law 20;" + six + "ball 0 0 2;");
        for (int pin = 0; pin < 6; pin++) {
            x.put(28 + pin, 0);
            x.steps(1);
            x.nudge();
            C.due("open", x.pin(pin, 4), 1);
        }
        x.put(0, 2);
        x.nudge();
        x.nudge();
        x.nudge();
        x.nudge();
        x.steps(1);
        C.due("lost", x.ball(2), 1);
        C.due("read", Check.read(x, "law 19;" + six + "ball 6 4 0;"), 6);
        int[] ball = {34, 0, 0, 0, 0, -1};
        for (int what = 0; what < 6; what++) {
            C.due("ball(" + what + ")", x.ball(what), ball[what]);
        }
        for (int pin = 0; pin < 6; pin++) {
            C.due("struck", x.pin(pin, 3), 0);
            C.due("open", x.pin(pin, 4), 0);
        }
        int[] count = {0, 6, 0, 0, 19, 0};
        for (int what = 0; what < 6; what++) {
            C.due("count(" + what + ")", x.count(what), count[what]);
        }
        C.due("undo()", x.undo(), Check.STATE);
        C.due("read", Check.read(x, "law 1;ball 0 0 2;"), 0);
        C.due("a pin that is gone", x.pin(0, 0), Check.BAD);
        C.due("the cell where it was", x.put(35, 0), 140);
        C.due("nothing there to be struck", x.ahead(1, 3), -1);
    }

    private static void imagesAndRowsStay() {
        C.sentence("IMAGES and ROWS stay");
        BumperBalls x = Check.with("law 9;pin gate 3 3 2 5;ball 3 0 0;");
        x.row(1, 1, 9);
        x.row(7, 0, 1);
        x.set(7, 0, 2);
        x.steps(4);
        x.image(1);
        x.put(1, 1);
        x.image(0);
        C.due("read", Check.read(x, "law 8;pin lamp 5 5 2 5;ball 4 0 0;"), 1);
        C.due("count(0)", x.count(0), 2);
        C.due("the lamp is heard by the row", x.heard(7, 0, 1, 1), 20);
        C.due("restore(1)", x.restore(1), 1);
        C.due("ball(0)", x.ball(0), 17);
        C.due("ball(4)", x.ball(4), 5);
        C.due("count(4)", x.count(4), 9);
        C.due("open", x.pin(0, 4), 1);
        C.due("restore(0)", x.restore(0), 1);
        C.due("ball(0)", x.ball(0), 1);
        C.due("drop(1)", x.drop(1), 9);
    }

    private static void theLatestFault() {
        C.sentence("The number of the latest FAULT; 0 before one.");
        BumperBalls x = new BumperBalls();
        C.due("before one", x.fault(), 0);
        Check.read(x, "law 3;ball 0 0 0;");
        C.due("behind a table", x.fault(), 0);
        Check.read(x, "law 0;");
        C.due("2", x.fault(), 2);
        Check.read(x, "law 3;ball 0 0 0;");
        C.due("it stays", x.fault(), 2);
        Check.read(x, pins(6) + "pin");
        C.due("3", x.fault(), 3);
        Check.read(x, "low");
        C.due("1", x.fault(), 1);
        x.fault();
        C.due("1 yet", x.fault(), 1);
    }

    private static void bytesOnTheTape() {
        C.sentence("count: How many: 5 bytes on the tape");
        BumperBalls x = new BumperBalls();
        C.due("none", x.count(5), 0);
        for (int k = 1; k <= 50; k++) {
            x.feed(0x2020202020202020L, 8);
            C.due("count(5)", x.count(5), 8 * k);
        }
        x.feed(0, 1);
        C.due("400", x.count(5), 400);
        x.table();
        C.due("none", x.count(5), 0);
    }
}
