/** Balls that remember bumpers. What each call answers stands in ../shared/DOC.md. */
public final class BumperBalls {
    public static final int NONE = -1000000, BAD = -1000001, STATE = -1000002, FULL = -1000003;

    // Findings: the answer is FINDING less the number, the number is what status() tells.
    private static final int FINDING = -1000010;
    private static final int NULL = 1, PLACE = 2, KIND = 3, SIZE = 4, STORE = 5;
    private static final int FAULT = -1000100;

    private static final int MOST_ROWS = 8, MOST_ITEMS = 40, MOST_LANE = 2;
    private static final int MOST_BYTES = 400, MOST_FED = 8;
    private static final int MOST_PINS = 6, MOST_TILT = 20, MOST_LETTER = 7, MOST_PAYS = 99;
    private static final int WIDTH = 7, HEIGHT = 6, CELLS = 42, WAYS = 4, PUTS = 168;
    private static final int UP = 0, RIGHT = 1, DOWN = 2, LEFT = 3;
    private static final int NO_PIN = -1, NO_LETTER = -1;
    private static final int MOST_ACTS = 24, MOST_AT_ONCE = 24, MOST_STEPS = 9999, SHAKES_OF_A_NUDGE = 3;
    private static final int MOST_AHEAD = 200, LONGEST = 500, LONGEST_ROUND = 400;
    private static final int MOST_RICHEST = 40, MOST_NUDGED = 20;
    private static final int MOST_HEARD = 10, STEPS_HEARD = 60;
    private static final int IMAGES = 2, MOST_TRACE = 16;

    private static final int PIN = 0, BUMPER = 1, LEFTER = 2, RIGHTER = 3, LAMP = 4, GATE = 5;
    // Of each kind the nearest that it is, too.
    private static final int[] NEAREST = {-1, PIN, BUMPER, BUMPER, PIN, LAMP};

    private final Rows rows = new Rows();
    private final Tape tape = new Tape();
    private final Table table = new Table();
    private final Play play = new Play();
    private final Acts acts = new Acts();
    private final Image[] images = new Image[IMAGES];
    private final Play probe = new Play();
    private final Search search = new Search();
    private final Asks asks = new Asks();
    private boolean ready = false;
    private int latestFault = 0;
    private int latestFinding = 0;

    public BumperBalls() {
        for (int k = 0; k < IMAGES; k++) {
            images[k] = new Image();
        }
    }

    // ---- rows

    public int row(int row, int lane, int n) {
        if (!isRow(row) || !isUpTo(lane, MOST_LANE) || n > MOST_ITEMS) {
            return BAD;
        }
        if (n < 0) {
            return found(SIZE);
        }
        rows.make(row, lane, n);
        return plain(n);
    }

    public int set(int row, int i, int v) {
        if (!isRow(row)) {
            return BAD;
        }
        if (rows.isMissing(row)) {
            return found(NULL);
        }
        if (!rows.hasPlaces(row, i, 1)) {
            return found(PLACE);
        }
        return plain(rows.write(row, i, v));
    }

    public int copy(int a, int i, int b, int j, int n) {
        if (!isRow(a) || !isRow(b)) {
            return BAD;
        }
        if (rows.isMissing(a) || rows.isMissing(b)) {
            return found(NULL);
        }
        if (rows.lanes[a] != rows.lanes[b]) {
            return found(STORE);
        }
        if (!rows.hasPlaces(a, i, n) || !rows.hasPlaces(b, j, n)) {
            return found(PLACE);
        }
        System.arraycopy(rows.items[a], i, rows.items[b], j, n);
        return plain(n);
    }

    public int drop(int row) {
        if (!isRow(row)) {
            return BAD;
        }
        if (rows.isMissing(row)) {
            return found(NULL);
        }
        return plain(rows.remove(row));
    }

    // ---- tables, steps

    public int feed(long w, int n) {
        if (n < 1 || n > MOST_FED) {
            return BAD;
        }
        if (tape.length > MOST_BYTES - n) {
            return FULL;
        }
        tape.append(w, n);
        return tape.length;
    }

    public int table() {
        tape.readAll();
        tape.length = 0;
        if (tape.fault != 0) {
            latestFault = tape.fault;
            return FAULT - tape.start;
        }
        table.become(tape.draft);
        play.begin(tape.ballCell, tape.ballWay);
        acts.forget();
        ready = true;
        return table.pins;
    }

    public int fault() {
        return latestFault;
    }

    public int steps(int n) {
        if (!ready) {
            return STATE;
        }
        if (n < 1 || n > MOST_AT_ONCE) {
            return BAD;
        }
        if (play.lost) {
            return STATE;
        }
        if (play.steps + n > MOST_STEPS) {
            return FULL;
        }
        int gone = 0;
        while (gone < n && !play.lost) {
            acts.keep(play);
            play.step(table);
            gone++;
        }
        return gone;
    }

    public int nudge() {
        if (!ready || play.lost) {
            return STATE;
        }
        acts.keep(play);
        play.shake(table.tilt);
        return play.shakes;
    }

    public int flip() {
        if (!ready || play.lost || play.cell >= WIDTH || play.way != DOWN) {
            return STATE;
        }
        acts.keep(play);
        play.way = UP;
        return play.cell;
    }

    public int put(int cell, int way) {
        if (!ready) {
            return STATE;
        }
        if (!isUpTo(cell, CELLS - 1) || !isUpTo(way, WAYS - 1) || table.pinIn(cell) != NO_PIN) {
            return BAD;
        }
        acts.keep(play);
        play.place(cell, way);
        return cell * WAYS + way;
    }

    public int undo() {
        if (acts.size == 0) {
            return STATE;
        }
        acts.takeBack(play);
        return acts.size;
    }

    public int ball(int what) {
        if (!ready) {
            return STATE;
        }
        switch (what) {
            case 0: return play.cell;
            case 1: return play.way;
            case 2: return play.lost ? 1 : 0;
            case 3: return play.shakes;
            case 4: return play.score;
            case 5: return play.lit;
            default: return BAD;
        }
    }

    public int pin(int pin, int what) {
        if (!isPin(pin)) {
            return BAD;
        }
        switch (what) {
            case 0: return table.cells[pin];
            case 1: return table.letters[pin];
            case 2: return table.pays[pin];
            case 3: return play.struck[pin];
            case 4: return play.isOpen(pin) ? 1 : 0;
            default: return BAD;
        }
    }

    // ---- foretold

    public int ahead(int n, int what) {
        if (!ready) {
            return STATE;
        }
        if (!isUpTo(n, MOST_AHEAD) || !isUpTo(what, 3)) {
            return BAD;
        }
        probe.become(play);
        probe.run(table, n);
        switch (what) {
            case 0: return probe.lost ? NONE : probe.cell;
            case 1: return probe.way;
            case 2: return probe.score;
            default: return probe.lit;
        }
    }

    public int lasts(int what) {
        if (!ready) {
            return STATE;
        }
        if (!isUpTo(what, 1)) {
            return BAD;
        }
        if (play.lost) {
            return STATE;
        }
        return what == 0 ? stepsTillLost() : stepsTillAgain();
    }

    public int richest(int n, int what) {
        if (!ready) {
            return STATE;
        }
        if (n < 1 || n > MOST_RICHEST || !isUpTo(what, 1)) {
            return BAD;
        }
        int best = NONE;
        int most = -1;
        for (int how = 0; how < PUTS; how++) {
            int more = table.pinIn(how / WAYS) == NO_PIN ? broughtBy(how, n) : -1;
            if (more > most) {
                most = more;
                best = how;
            }
        }
        return what == 0 ? best : most;
    }

    public int nudged(int letter, int n) {
        if (!ready) {
            return STATE;
        }
        if (!isUpTo(letter, MOST_LETTER) || n < 1 || n > MOST_NUDGED) {
            return BAD;
        }
        if (play.lost) {
            return STATE;
        }
        search.walk(table, play, letter, n);
        return search.fewestStriking;
    }

    public int kept(int n) {
        if (!ready) {
            return STATE;
        }
        if (n < 1 || n > MOST_NUDGED) {
            return BAD;
        }
        if (play.lost) {
            return STATE;
        }
        search.walk(table, play, NO_LETTER, n);
        return search.fewestStaying();
    }

    public int heard(int row, int i, int n, int what) {
        if (!ready) {
            return STATE;
        }
        if (!isRow(row) || n < 1 || n > MOST_HEARD || !isUpTo(what, 1)) {
            return BAD;
        }
        if (rows.isMissing(row)) {
            return found(NULL);
        }
        if (!rows.hasPlaces(row, i, n)) {
            return found(PLACE);
        }
        if (!rows.tellsLetters(row, i, n)) {
            return BAD;
        }
        int fitting = 0;
        int least = NONE;
        for (int how = PUTS - 1; how >= 0; how--) {
            if (table.pinIn(how / WAYS) == NO_PIN && isHeard(how, row, i, n)) {
                fitting++;
                least = how;
            }
        }
        return plain(what == 0 ? fitting : least);
    }

    public int image(int k) {
        if (!isUpTo(k, IMAGES - 1)) {
            return BAD;
        }
        if (!ready) {
            return STATE;
        }
        images[k].keep(table, play);
        return 1;
    }

    public int restore(int k) {
        if (!isUpTo(k, IMAGES - 1)) {
            return BAD;
        }
        if (!images[k].isKept) {
            return STATE;
        }
        table.become(images[k].table);
        play.become(images[k].play);
        acts.forget();
        return 1;
    }

    // ---- asked

    public int kind(int pin) {
        return isPin(pin) ? table.kinds[pin] : BAD;
    }

    public int as(int pin, int kind) {
        if (!isPin(pin) || !isUpTo(kind, GATE)) {
            return BAD;
        }
        if (!isOfKind(table.kinds[pin], kind)) {
            return found(KIND);
        }
        return plain(pin);
    }

    public int ask(int pin, int what) {
        if (!isPin(pin) || !isUpTo(what, 1)) {
            return BAD;
        }
        asks.begin(pin, table, play);
        return what == 0 ? asks.sizeAsked() : asks.markAsked();
    }

    public int trace(int i) {
        return i >= 0 && i < asks.length ? asks.bodies[i] : NONE;
    }

    public int count(int what) {
        switch (what) {
            case 0: return rows.there();
            case 1: return table.pins;
            case 2: return play.steps;
            case 3: return acts.size;
            case 4: return table.tilt;
            case 5: return tape.length;
            default: return BAD;
        }
    }

    public int status() {
        return latestFinding;
    }

    private int found(int finding) {
        latestFinding = finding;
        return FINDING - finding;
    }

    private int plain(int answer) {
        latestFinding = 0;
        return answer;
    }

    private static boolean isUpTo(int number, int most) {
        return number >= 0 && number <= most;
    }

    private static boolean isRow(int row) {
        return isUpTo(row, MOST_ROWS - 1);
    }

    private boolean isPin(int pin) {
        return pin >= 0 && pin < table.pins;
    }

    private static boolean isOfKind(int kind, int asked) {
        int is = kind;
        for (int up = 0; up < NEAREST.length && is >= 0 && is < NEAREST.length; up++) {
            if (is == asked) {
                return true;
            }
            is = NEAREST[is];
        }
        return false;
    }

    private int stepsTillLost() {
        probe.become(play);
        for (int gone = 1; gone <= LONGEST; gone++) {
            probe.step(table);
            if (probe.lost) {
                return gone;
            }
        }
        return NONE;
    }

    private int stepsTillAgain() {
        probe.become(play);
        for (int gone = 1; gone <= LONGEST_ROUND; gone++) {
            probe.step(table);
            // A ball that is lost keeps its cell and way, but it is in no cell any more.
            if (probe.lost) {
                return NONE;
            }
            if (probe.isAs(play)) {
                return gone;
            }
        }
        return NONE;
    }

    private int broughtBy(int how, int n) {
        probe.become(play);
        probe.place(how / WAYS, how % WAYS);
        probe.run(table, n);
        return probe.score - play.score;
    }

    private boolean isHeard(int how, int row, int i, int n) {
        probe.become(play);
        probe.place(how / WAYS, how % WAYS);
        int fitting = 0;
        for (int gone = 0; gone < STEPS_HEARD && !probe.lost; gone++) {
            probe.step(table);
            if (probe.knocked != NO_PIN) {
                if (table.letters[probe.knocked] != rows.items[row][i + fitting]) {
                    return false;
                }
                fitting++;
                if (fitting == n) {
                    return true;
                }
            }
        }
        return false;
    }

    /** The rows of numbers; a row that is missing has a size below 0. */
    private static final class Rows {
        private static final int MISSING = -1;
        private final int[] lanes = new int[MOST_ROWS];
        private final int[] sizes = new int[MOST_ROWS];
        private final int[][] items = new int[MOST_ROWS][MOST_ITEMS];

        private Rows() {
            for (int row = 0; row < MOST_ROWS; row++) {
                sizes[row] = MISSING;
            }
        }

        private boolean isMissing(int row) {
            return sizes[row] == MISSING;
        }

        private boolean hasPlaces(int row, int i, int n) {
            return i >= 0 && n >= 0 && i <= sizes[row] - n;
        }

        private void make(int row, int lane, int n) {
            lanes[row] = lane;
            sizes[row] = n;
            for (int i = 0; i < MOST_ITEMS; i++) {
                items[row][i] = 0;
            }
        }

        private int remove(int row) {
            int had = sizes[row];
            sizes[row] = MISSING;
            return had;
        }

        private int write(int row, int i, int v) {
            items[row][i] = lanes[row] == 0 ? (byte) v : lanes[row] == 1 ? (short) v : v;
            return items[row][i];
        }

        private boolean tellsLetters(int row, int i, int n) {
            for (int k = 0; k < n; k++) {
                if (!isUpTo(items[row][i + k], MOST_LETTER)) {
                    return false;
                }
            }
            return true;
        }

        private int there() {
            int there = 0;
            for (int row = 0; row < MOST_ROWS; row++) {
                if (!isMissing(row)) {
                    there++;
                }
            }
            return there;
        }
    }

    /** The bytes that were fed, and the reading of a table from them: behind a fault nothing more is taken. */
    private static final class Tape {
        private static final int CANNOT_STAND = 1, NOT_AS_TOLD = 2, NO_ROOM = 3;
        private static final int END = 0, NAME = 1, NUMBER = 2, SEMICOLON = 3, NO_TOKEN = 4;
        private static final int MOST_FIGURES = 3;

        private final int[] bytes = new int[MOST_BYTES];
        private int length = 0;
        private final Table draft = new Table();
        private int ballCell = 0;
        private int ballWay = UP;
        private int fault = 0;
        private int at = 0;
        // The token taken last: its first byte, its sort, and of a number what it tells.
        private int start = 0;
        private int sort = END;
        private int value = 0;

        private void append(long w, int n) {
            for (int k = n - 1; k >= 0 && length < MOST_BYTES; k--) {
                bytes[length] = (int) (w >> (8 * k)) & 255;
                length++;
            }
        }

        private void readAll() {
            at = 0;
            fault = 0;
            draft.clear();
            readLaw();
            take();
            // One round more than there is room for: it finds the pin that is too many.
            for (int k = 0; k <= MOST_PINS && isName("pin"); k++) {
                readPin();
                take();
            }
            readBall();
            take();
            demand(sort == END);
        }

        private void readLaw() {
            take();
            demand(isName("law"));
            draft.tilt = takeNumber(1, MOST_TILT);
            takeSemicolon();
        }

        private void readPin() {
            if (fault == 0 && draft.pins >= MOST_PINS) {
                fault = NO_ROOM;
            }
            int kind = takeKind();
            int cell = takeFreeCell();
            int letter = takeNumber(0, MOST_LETTER);
            int pays = takeNumber(0, MOST_PAYS);
            takeSemicolon();
            if (fault == 0) {
                draft.addPin(kind, cell, letter, pays);
            }
        }

        /** Its word is taken by then: it is what ended the pins. */
        private void readBall() {
            demand(isName("ball"));
            ballCell = takeFreeCell();
            ballWay = takeNumber(0, WAYS - 1);
            takeSemicolon();
        }

        private int takeKind() {
            take();
            int kind = isName("bumper") ? BUMPER
                : isName("lefter") ? LEFTER
                : isName("righter") ? RIGHTER
                : isName("lamp") ? LAMP
                : isName("gate") ? GATE
                : PIN;
            demand(kind != PIN);
            return kind;
        }

        private int takeFreeCell() {
            int x = takeNumber(0, WIDTH - 1);
            int y = takeNumber(0, HEIGHT - 1);
            int cell = WIDTH * y + x;
            if (fault == 0 && draft.pinIn(cell) != NO_PIN) {
                fault = NOT_AS_TOLD;
            }
            return cell;
        }

        private int takeNumber(int least, int most) {
            take();
            demand(sort == NUMBER);
            if (fault == 0 && (value < least || value > most)) {
                fault = NOT_AS_TOLD;
            }
            return value;
        }

        private void takeSemicolon() {
            take();
            demand(sort == SEMICOLON);
        }

        private void demand(boolean canStand) {
            if (fault == 0 && !canStand) {
                fault = CANNOT_STAND;
            }
        }

        private void take() {
            if (fault != 0) {
                return;
            }
            while (at < length && isBlank(bytes[at])) {
                at++;
            }
            start = at;
            value = 0;
            if (at >= length) {
                sort = END;
            } else if (isLetter(bytes[at])) {
                takeName();
            } else if (isFigure(bytes[at])) {
                takeFigures();
            } else {
                sort = bytes[at] == ';' ? SEMICOLON : NO_TOKEN;
                at++;
            }
        }

        private void takeName() {
            while (at < length && isLetter(bytes[at])) {
                at++;
            }
            sort = NAME;
        }

        private void takeFigures() {
            while (at < length && isFigure(bytes[at])) {
                // A longer run is no token: its value is not looked at.
                if (at - start < MOST_FIGURES) {
                    value = 10 * value + bytes[at] - '0';
                }
                at++;
            }
            sort = at - start > MOST_FIGURES ? NO_TOKEN : NUMBER;
        }

        private boolean isName(String word) {
            if (sort != NAME || at - start != word.length()) {
                return false;
            }
            for (int k = 0; k < word.length(); k++) {
                if (bytes[start + k] != word.charAt(k)) {
                    return false;
                }
            }
            return true;
        }

        private static boolean isBlank(int b) {
            return b == 32 || b == 10;
        }

        private static boolean isLetter(int b) {
            return b >= 'a' && b <= 'z';
        }

        private static boolean isFigure(int b) {
            return b >= '0' && b <= '9';
        }
    }

    /** The law and the pins: what stays while balls are played. */
    private static final class Table {
        private int tilt = 0;
        private int pins = 0;
        private final int[] kinds = new int[MOST_PINS];
        private final int[] cells = new int[MOST_PINS];
        private final int[] letters = new int[MOST_PINS];
        private final int[] pays = new int[MOST_PINS];
        private final int[] pinsOfCells = new int[CELLS];

        private Table() {
            clear();
        }

        private void clear() {
            tilt = 0;
            pins = 0;
            for (int cell = 0; cell < CELLS; cell++) {
                pinsOfCells[cell] = NO_PIN;
            }
        }

        private void addPin(int kind, int cell, int letter, int pay) {
            if (pins >= MOST_PINS || !isUpTo(cell, CELLS - 1)) {
                return;
            }
            kinds[pins] = kind;
            cells[pins] = cell;
            letters[pins] = letter;
            pays[pins] = pay;
            pinsOfCells[cell] = pins;
            pins++;
        }

        private int pinIn(int cell) {
            return isUpTo(cell, CELLS - 1) ? pinsOfCells[cell] : NO_PIN;
        }

        private void become(Table other) {
            tilt = other.tilt;
            pins = other.pins;
            System.arraycopy(other.kinds, 0, kinds, 0, MOST_PINS);
            System.arraycopy(other.cells, 0, cells, 0, MOST_PINS);
            System.arraycopy(other.letters, 0, letters, 0, MOST_PINS);
            System.arraycopy(other.pays, 0, pays, 0, MOST_PINS);
            System.arraycopy(other.pinsOfCells, 0, pinsOfCells, 0, CELLS);
        }
    }

    /** The ball, and all that it changes on a table. */
    private static final class Play {
        private int cell = 0;
        private int way = UP;
        private boolean lost = false;
        private int shakes = 0;
        private int score = 0;
        private int lit = NO_LETTER;
        private int gates = 0;
        private int steps = 0;
        private final int[] struck = new int[MOST_PINS];
        // The pin that the latest step struck.
        private int knocked = NO_PIN;

        private void begin(int firstCell, int firstWay) {
            place(firstCell, firstWay);
            score = 0;
            lit = NO_LETTER;
            gates = 0;
            steps = 0;
            for (int pin = 0; pin < MOST_PINS; pin++) {
                struck[pin] = 0;
            }
        }

        private void place(int newCell, int newWay) {
            cell = newCell;
            way = newWay;
            lost = false;
            shakes = 0;
        }

        private void become(Play other) {
            cell = other.cell;
            way = other.way;
            lost = other.lost;
            shakes = other.shakes;
            score = other.score;
            lit = other.lit;
            gates = other.gates;
            steps = other.steps;
            knocked = other.knocked;
            System.arraycopy(other.struck, 0, struck, 0, MOST_PINS);
        }

        private boolean isAs(Play other) {
            return cell == other.cell && way == other.way && lit == other.lit && gates == other.gates;
        }

        private boolean isOpen(int pin) {
            return (gates >> pin & 1) == 1;
        }

        private void run(Table table, int n) {
            for (int gone = 0; gone < n && !lost; gone++) {
                step(table);
            }
        }

        private void step(Table table) {
            steps++;
            shakes = Math.max(0, shakes - 1);
            knocked = NO_PIN;
            if (way == DOWN && cell < WIDTH) {
                lost = true;
            } else if (isAtSide()) {
                turn(2);
            } else {
                cell += way == UP ? WIDTH : way == RIGHT ? 1 : way == DOWN ? -WIDTH : -1;
                knock(table, table.pinIn(cell));
            }
        }

        private boolean isAtSide() {
            return way == UP && cell / WIDTH == HEIGHT - 1
                || way == RIGHT && cell % WIDTH == WIDTH - 1
                || way == LEFT && cell % WIDTH == 0;
        }

        private void knock(Table table, int pin) {
            if (!isUpTo(pin, MOST_PINS - 1)) {
                return;
            }
            knocked = pin;
            struck[pin]++;
            if (lit != table.letters[pin]) {
                score += table.pays[pin];
            }
            lit = table.letters[pin];
            turnBy(pin, table.kinds[pin]);
        }

        private void turnBy(int pin, int kind) {
            switch (kind) {
                case BUMPER:
                    turn(2);
                    break;
                case LEFTER:
                    turn(3);
                    break;
                case RIGHTER:
                    turn(1);
                    break;
                case GATE:
                    turn(isOpen(pin) ? 0 : 2);
                    gates ^= 1 << pin;
                    break;
                default:
                    break;
            }
        }

        private void turn(int quartersToTheRight) {
            way = (way + quartersToTheRight) % WAYS;
        }

        private void shake(int tilt) {
            turn(1);
            shakes += SHAKES_OF_A_NUDGE;
            if (shakes > tilt) {
                lost = true;
            }
        }
    }

    /** How the play stood ahead of each of the latest acts; the oldest gives way. */
    private static final class Acts {
        private final Play[] plays = new Play[MOST_ACTS];
        private int oldest = 0;
        private int size = 0;

        private Acts() {
            for (int k = 0; k < MOST_ACTS; k++) {
                plays[k] = new Play();
            }
        }

        private void forget() {
            size = 0;
        }

        private void keep(Play play) {
            if (size == MOST_ACTS) {
                oldest = (oldest + 1) % MOST_ACTS;
                size--;
            }
            plays[(oldest + size) % MOST_ACTS].become(play);
            size++;
        }

        private void takeBack(Play play) {
            if (size > 0) {
                size--;
                play.become(plays[(oldest + size) % MOST_ACTS]);
            }
        }
    }

    /** A table and its play as they once were. */
    private static final class Image {
        private final Table table = new Table();
        private final Play play = new Play();
        private boolean isKept = false;

        private void keep(Table otherTable, Play otherPlay) {
            table.become(otherTable);
            play.become(otherPlay);
            isKept = true;
        }
    }

    /** Where balls can be behind so many steps, each with the fewest nudges that bring one there. */
    private static final class Layer {
        private final int[] places;
        // By place: one more than the nudges; 0: no ball comes there.
        private final int[] costs;
        private int size = 0;

        private Layer(int room) {
            places = new int[room];
            costs = new int[room];
        }

        private void clear() {
            for (int k = 0; k < size; k++) {
                costs[places[k]] = 0;
            }
            size = 0;
        }

        private void reach(Play ball, int nudges) {
            int place = ball.gates * PUTS + ball.cell * WAYS + ball.way;
            if (!isUpTo(place, costs.length - 1)) {
                return;
            }
            if (costs[place] == 0 && size < places.length) {
                places[size] = place;
                size++;
                costs[place] = nudges + 1;
            } else {
                costs[place] = Math.min(costs[place], nudges + 1);
            }
        }
    }

    /** Tries all ways to nudge, a step at a time: balls that have come to one place go on as one. */
    private static final class Search {
        private Layer now = new Layer(PUTS);
        private Layer next = new Layer(PUTS);
        // Its score and counts tell nothing: letters that are lit do not change where a ball goes.
        private final Play ball = new Play();
        private int fewestStriking = NONE;

        private void walk(Table table, Play from, int letter, int n) {
            makeRoom(table.pins);
            fewestStriking = NONE;
            now.clear();
            now.reach(from, 0);
            for (int gone = 0; gone < n; gone++) {
                next.clear();
                for (int k = 0; k < now.size; k++) {
                    int place = now.places[k];
                    int nudges = now.costs[place] - 1;
                    goOn(table, place, 0, nudges, letter);
                    goOn(table, place, 1, nudges + 1, letter);
                }
                Layer behind = now;
                now = next;
                next = behind;
            }
        }

        /** Each pin can be a gate, which doubles the places: room for six in each new object would be dear. */
        private void makeRoom(int pins) {
            int room = PUTS << Math.min(pins, MOST_PINS);
            if (room > now.places.length) {
                now = new Layer(room);
                next = new Layer(room);
            }
        }

        private void goOn(Table table, int place, int turns, int nudges, int letter) {
            ball.place(place % PUTS / WAYS, place % WAYS);
            ball.gates = place / PUTS;
            ball.turn(turns);
            ball.step(table);
            if (ball.knocked != NO_PIN && table.letters[ball.knocked] == letter) {
                fewestStriking = fewer(fewestStriking, nudges);
            }
            if (!ball.lost) {
                next.reach(ball, nudges);
            }
        }

        private int fewestStaying() {
            int fewest = NONE;
            for (int k = 0; k < now.size; k++) {
                fewest = fewer(fewest, now.costs[now.places[k]] - 1);
            }
            return fewest;
        }

        private static int fewer(int fewest, int nudges) {
            return fewest == NONE ? nudges : Math.min(fewest, nudges);
        }
    }

    /** The bodies by which a pin answers, and the trace that they leave. */
    private static final class Asks {
        private final int[] bodies = new int[MOST_TRACE];
        private int length = 0;
        private int pin = 0;
        private int kind = PIN;
        private int pays = 0;
        private int struck = 0;

        private void begin(int ofPin, Table table, Play play) {
            length = 0;
            pin = ofPin;
            kind = table.kinds[ofPin];
            pays = table.pays[ofPin];
            struck = play.struck[ofPin];
        }

        private void leave(int body) {
            if (length < MOST_TRACE) {
                bodies[length] = body;
                length++;
            }
        }

        private int sizeAsked() {
            return isOfKind(kind, BUMPER) ? sizeOfBumper() : sizeOfLamp();
        }

        private int markAsked() {
            return isOfKind(kind, BUMPER) ? markOfBumper() : markOfLamp();
        }

        private int sizeOfBumper() {
            if (kind == LEFTER) {
                leave(12);
            }
            leave(11);
            leave(10);
            int size = pays + markOfBumper();
            return kind == LEFTER ? -size : size;
        }

        private int markOfBumper() {
            if (kind == LEFTER) {
                leave(24);
            } else if (kind == RIGHTER) {
                leave(22);
            }
            leave(21);
            leave(20);
            int mark = pin + struck;
            return kind == LEFTER ? 2 * mark : kind == RIGHTER ? mark - 1000 : mark;
        }

        private int sizeOfLamp() {
            if (kind == GATE) {
                leave(14);
            }
            leave(13);
            leave(10);
            int size = pays - 100;
            return kind == GATE ? 2 * size : size;
        }

        private int markOfLamp() {
            leave(23);
            leave(20);
            return pin - sizeOfLamp();
        }
    }
}
