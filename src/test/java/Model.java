import java.util.ArrayDeque;
import java.util.ArrayList;
import java.util.Arrays;
import java.util.Deque;
import java.util.HashMap;
import java.util.List;
import java.util.Map;
import java.util.Set;
import java.util.TreeSet;
import java.util.function.Function;
import java.util.regex.Matcher;
import java.util.regex.Pattern;

/** The document once more, in another form: plays that never change, texts by patterns, nudges by trying all. */
final class Model {
    private static final int NONE = -1000000, BAD = -1000001, STATE = -1000002, FULL = -1000003;
    private static final List<String> SORTS = List.of("", "bumper", "lefter", "righter", "lamp", "gate");
    private static final Map<String, Set<Integer>> IS = Map.of("bumper", Set.of(0, 1), "lefter", Set.of(0, 1, 2),
        "righter", Set.of(0, 1, 3), "lamp", Set.of(0, 4), "gate", Set.of(0, 4, 5));

    record Pin(String sort, int x, int y, int letter, int pays) { }

    record Play(int tilt, List<Pin> pins, int x, int y, int way, boolean lost, int shakes, int score, int lit,
                int steps, List<Integer> struck, Set<Integer> open, int knocked) {

        Play at(int newX, int newY, int newWay) {
            return new Play(tilt, pins, newX, newY, newWay, false, 0, score, lit, steps, struck, open, -1);
        }

        int cell() {
            return 7 * y + x;
        }

        int pinAt(int px, int py) {
            for (Pin pin : pins) {
                if (pin.x == px && pin.y == py) {
                    return pins.indexOf(pin);
                }
            }
            return -1;
        }

        Play step() {
            int toX = x + (way == 1 ? 1 : way == 3 ? -1 : 0);
            int toY = y + (way == 0 ? 1 : way == 2 ? -1 : 0);
            int calmer = shakes == 0 ? 0 : shakes - 1;
            if (toY < 0) {
                return new Play(tilt, pins, x, y, way, true, calmer, score, lit, steps + 1, struck, open, -1);
            }
            if (toY > 5 || toX < 0 || toX > 6) {
                return new Play(tilt, pins, x, y, back(way), false, calmer, score, lit, steps + 1, struck, open, -1);
            }
            int hit = pinAt(toX, toY);
            if (hit < 0) {
                return new Play(tilt, pins, toX, toY, way, false, calmer, score, lit, steps + 1, struck, open, -1);
            }
            Pin pin = pins.get(hit);
            int brought = pin.letter == lit ? 0 : pin.pays;
            List<Integer> oftener = new ArrayList<>(struck);
            oftener.set(hit, struck.get(hit) + 1);
            Set<Integer> gates = new TreeSet<>(open);
            int to = switch (pin.sort) {
                case "bumper" -> back(way);
                case "lefter" -> (way + 3) % 4;
                case "righter" -> (way + 1) % 4;
                case "gate" -> open.contains(hit) ? way : back(way);
                default -> way;
            };
            if (pin.sort.equals("gate") && !gates.remove(hit)) {
                gates.add(hit);
            }
            return new Play(tilt, pins, toX, toY, to, false, calmer, score + brought, pin.letter, steps + 1, oftener,
                gates, hit);
        }

        Play steps(int n) {
            Play play = this;
            for (int k = 0; k < n && !play.lost; k++) {
                play = play.step();
            }
            return play;
        }

        Play nudge(boolean shaking) {
            int more = shaking ? shakes + 3 : shakes;
            return new Play(tilt, pins, x, y, (way + 1) % 4, shaking && more > tilt, more, score, lit, steps, struck,
                open, -1);
        }

        static int back(int way) {
            return (way + 2) % 4;
        }
    }

    private final int[][] rows = new int[8][];
    private final int[] lanes = new int[8];
    private final StringBuilder tape = new StringBuilder();
    private final Deque<Play> acts = new ArrayDeque<>();
    private final Play[] images = new Play[2];
    private final List<Integer> trace = new ArrayList<>();
    private Play play = null;
    private int fault = 0;
    private int status = 0;

    private static boolean in(int number, int least, int most) {
        return number >= least && number <= most;
    }

    private int told(int finding) {
        status = finding;
        return -1000010 - finding;
    }

    private int fine(int answer) {
        status = 0;
        return answer;
    }

    int row(int row, int lane, int n) {
        if (!in(row, 0, 7) || !in(lane, 0, 2) || n > 40) {
            return BAD;
        }
        if (n < 0) {
            return told(4);
        }
        rows[row] = new int[n];
        lanes[row] = lane;
        return fine(n);
    }

    int set(int row, int i, int v) {
        if (!in(row, 0, 7)) {
            return BAD;
        }
        if (rows[row] == null) {
            return told(1);
        }
        if (!in(i, 0, rows[row].length - 1)) {
            return told(2);
        }
        int unseen = new int[] {24, 16, 0}[lanes[row]];
        rows[row][i] = v << unseen >> unseen;
        return fine(rows[row][i]);
    }

    int copy(int a, int i, int b, int j, int n) {
        if (!in(a, 0, 7) || !in(b, 0, 7)) {
            return BAD;
        }
        if (rows[a] == null || rows[b] == null) {
            return told(1);
        }
        if (lanes[a] != lanes[b]) {
            return told(5);
        }
        if (i < 0 || j < 0 || n < 0 || (long) i + n > rows[a].length || (long) j + n > rows[b].length) {
            return told(2);
        }
        int[] ahead = rows[a].clone();
        for (int k = 0; k < n; k++) {
            rows[b][j + k] = ahead[i + k];
        }
        return fine(n);
    }

    int drop(int row) {
        if (!in(row, 0, 7)) {
            return BAD;
        }
        if (rows[row] == null) {
            return told(1);
        }
        int had = rows[row].length;
        rows[row] = null;
        return fine(had);
    }

    int feed(long w, int n) {
        if (!in(n, 1, 8)) {
            return BAD;
        }
        if (tape.length() + n > 400) {
            return FULL;
        }
        for (int k = n - 1; k >= 0; k--) {
            tape.append((char) (w >>> 8 * k & 0xff));
        }
        return tape.length();
    }

    /** A fault, told as it is found. */
    private static final class Fault extends Exception {
        private static final long serialVersionUID = 1;
        private final int place;
        private final int number;

        private Fault(int place, int number) {
            this.place = place;
            this.number = number;
        }
    }

    private static final Pattern TOKEN = Pattern.compile("[ \n]*(?:([a-z]+)|([0-9]+)|(;)|(\\z)|([\\x00-\\xff]))");
    private Matcher tokens;
    private int place;
    private String token;

    private void next() {
        tokens.find();
        for (int group = 1; group <= 5; group++) {
            if (tokens.group(group) != null) {
                place = tokens.start(group);
                token = group == 4 ? "end" : group == 5 ? "?" + tokens.group(5) : tokens.group(group);
                if (group == 1 && token.equals("end")) {
                    token = "a word, not the end";
                }
            }
        }
    }

    private void expect(String want) throws Fault {
        if (!token.equals(want)) {
            throw new Fault(place, 1);
        }
    }

    private int number(int least, int most) throws Fault {
        next();
        if (!token.matches("[0-9]{1,3}")) {
            throw new Fault(place, 1);
        }
        int number = Integer.parseInt(token);
        if (!in(number, least, most)) {
            throw new Fault(place, 2);
        }
        return number;
    }

    int table() {
        tokens = TOKEN.matcher(tape.toString());
        tape.setLength(0);
        try {
            play = text();
        } catch (Fault found) {
            fault = found.number;
            return -1000100 - found.place;
        }
        acts.clear();
        return play.pins.size();
    }

    private Play text() throws Fault {
        next();
        expect("law");
        int tilt = number(1, 20);
        next();
        expect(";");
        List<Pin> pins = new ArrayList<>();
        for (next(); token.equals("pin"); next()) {
            if (pins.size() == 6) {
                throw new Fault(place, 3);
            }
            next();
            String sort = token;
            if (SORTS.indexOf(sort) < 1) {
                throw new Fault(place, 1);
            }
            int[] cell = cell(pins);
            pins.add(new Pin(sort, cell[0], cell[1], number(0, 7), number(0, 99)));
            next();
            expect(";");
        }
        expect("ball");
        int[] cell = cell(pins);
        int way = number(0, 3);
        next();
        expect(";");
        next();
        expect("end");
        return new Play(tilt, pins, cell[0], cell[1], way, false, 0, 0, -1, 0,
            new ArrayList<>(Arrays.asList(0, 0, 0, 0, 0, 0)), new TreeSet<>(), -1);
    }

    private int[] cell(List<Pin> pins) throws Fault {
        int x = number(0, 6);
        int y = number(0, 5);
        if (pins.stream().anyMatch(p -> p.x == x && p.y == y)) {
            throw new Fault(place, 2);
        }
        return new int[] {x, y};
    }

    int fault() {
        return fault;
    }

    private void act(Play behind) {
        acts.push(play);
        if (acts.size() > 24) {
            acts.removeLast();
        }
        play = behind;
    }

    int steps(int n) {
        if (play == null) {
            return STATE;
        }
        if (!in(n, 1, 24)) {
            return BAD;
        }
        if (play.lost) {
            return STATE;
        }
        if (play.steps + n > 9999) {
            return FULL;
        }
        int before = play.steps;
        for (int k = 0; k < n && !play.lost; k++) {
            act(play.step());
        }
        return play.steps - before;
    }

    int nudge() {
        if (play == null || play.lost) {
            return STATE;
        }
        act(play.nudge(true));
        return play.shakes;
    }

    int flip() {
        if (play == null || play.lost || play.y != 0 || play.way != 2) {
            return STATE;
        }
        Play p = play;
        act(new Play(p.tilt, p.pins, p.x, 0, 0, false, p.shakes, p.score, p.lit, p.steps, p.struck, p.open, -1));
        return play.x;
    }

    int put(int cell, int way) {
        if (play == null) {
            return STATE;
        }
        if (!in(cell, 0, 41) || !in(way, 0, 3) || play.pinAt(cell % 7, cell / 7) >= 0) {
            return BAD;
        }
        act(play.at(cell % 7, cell / 7, way));
        return 4 * cell + way;
    }

    int undo() {
        if (acts.isEmpty()) {
            return STATE;
        }
        play = acts.pop();
        return acts.size();
    }

    int ball(int what) {
        if (play == null) {
            return STATE;
        }
        List<Integer> all = List.of(play.cell(), play.way, play.lost ? 1 : 0, play.shakes, play.score, play.lit);
        return in(what, 0, 5) ? all.get(what) : BAD;
    }

    private boolean isPin(int pin) {
        return play != null && in(pin, 0, play.pins.size() - 1);
    }

    int pin(int pin, int what) {
        if (!isPin(pin) || !in(what, 0, 4)) {
            return BAD;
        }
        Pin p = play.pins.get(pin);
        return List.of(7 * p.y + p.x, p.letter, p.pays, play.struck.get(pin), play.open.contains(pin) ? 1 : 0).get(what);
    }

    int ahead(int n, int what) {
        if (play == null) {
            return STATE;
        }
        if (!in(n, 0, 200) || !in(what, 0, 3)) {
            return BAD;
        }
        Play then = play.steps(n);
        return List.of(then.lost ? NONE : then.cell(), then.way, then.score, then.lit).get(what);
    }

    int lasts(int what) {
        if (play == null) {
            return STATE;
        }
        if (!in(what, 0, 1)) {
            return BAD;
        }
        if (play.lost) {
            return STATE;
        }
        Play then = play;
        for (int n = 1; n <= (what == 0 ? 500 : 400); n++) {
            then = then.step();
            if (then.lost) {
                return what == 0 ? n : NONE;
            }
            boolean again = then.x == play.x && then.y == play.y && then.way == play.way && then.lit == play.lit
                && then.open.equals(play.open);
            if (what == 1 && again) {
                return n;
            }
        }
        return NONE;
    }

    /** All the ways to put a ball now, and what becomes of each. */
    private Map<Integer, Play> puts() {
        Map<Integer, Play> puts = new java.util.TreeMap<>();
        for (int how = 0; how < 168; how++) {
            int cell = how / 4;
            if (play.pinAt(cell % 7, cell / 7) < 0) {
                puts.put(how, play.at(cell % 7, cell / 7, how % 4));
            }
        }
        return puts;
    }

    int richest(int n, int what) {
        if (play == null) {
            return STATE;
        }
        if (!in(n, 1, 40) || !in(what, 0, 1)) {
            return BAD;
        }
        int most = -1;
        int best = -1;
        for (Map.Entry<Integer, Play> put : puts().entrySet()) {
            int more = put.getValue().steps(n).score - play.score;
            if (more > most) {
                most = more;
                best = put.getKey();
            }
        }
        return what == 0 ? best : most;
    }

    int nudged(int letter, int n) {
        if (play == null) {
            return STATE;
        }
        if (!in(letter, 0, 7) || !in(n, 1, 20)) {
            return BAD;
        }
        if (play.lost) {
            return STATE;
        }
        return fewest(play, n, p -> p.knocked >= 0 && p.pins.get(p.knocked).letter == letter, false, new HashMap<>());
    }

    int kept(int n) {
        if (play == null) {
            return STATE;
        }
        if (!in(n, 1, 20)) {
            return BAD;
        }
        if (play.lost) {
            return STATE;
        }
        return fewest(play, n, p -> false, true, new HashMap<>());
    }

    /** The fewest from here on; what was found for the same place and steps is kept. */
    private static int fewest(Play from, int n, Function<Play, Boolean> ends, boolean staying, Map<String, Integer> known) {
        if (n == 0) {
            return staying ? 0 : NONE;
        }
        String here = n + " " + from.cell() + " " + from.way + " " + from.open;
        Integer before = known.get(here);
        if (before != null) {
            return before;
        }
        int fewest = NONE;
        for (int nudges = 0; nudges <= 1; nudges++) {
            Play then = (nudges == 1 ? from.nudge(false) : from).step();
            int more = ends.apply(then) ? 0 : then.lost ? NONE : fewest(then, n - 1, ends, staying, known);
            if (more != NONE && (fewest == NONE || more + nudges < fewest)) {
                fewest = more + nudges;
            }
        }
        known.put(here, fewest);
        return fewest;
    }

    int heard(int row, int i, int n, int what) {
        if (play == null) {
            return STATE;
        }
        if (!in(row, 0, 7) || !in(n, 1, 10) || !in(what, 0, 1)) {
            return BAD;
        }
        if (rows[row] == null) {
            return told(1);
        }
        if (i < 0 || (long) i + n > rows[row].length) {
            return told(2);
        }
        List<Integer> letters = new ArrayList<>();
        for (int k = 0; k < n; k++) {
            if (!in(rows[row][i + k], 0, 7)) {
                return BAD;
            }
            letters.add(rows[row][i + k]);
        }
        List<Integer> fitting = new ArrayList<>();
        for (Map.Entry<Integer, Play> put : puts().entrySet()) {
            List<Integer> knocks = new ArrayList<>();
            Play then = put.getValue();
            for (int k = 0; k < 60 && !then.lost; k++) {
                then = then.step();
                if (then.knocked >= 0) {
                    knocks.add(then.pins.get(then.knocked).letter);
                }
            }
            if (knocks.size() >= n && knocks.subList(0, n).equals(letters)) {
                fitting.add(put.getKey());
            }
        }
        return fine(what == 0 ? fitting.size() : fitting.isEmpty() ? NONE : fitting.get(0));
    }

    int image(int k) {
        if (!in(k, 0, 1)) {
            return BAD;
        }
        if (play == null) {
            return STATE;
        }
        images[k] = play;
        return 1;
    }

    int restore(int k) {
        if (!in(k, 0, 1)) {
            return BAD;
        }
        if (images[k] == null) {
            return STATE;
        }
        play = images[k];
        acts.clear();
        return 1;
    }

    int kind(int pin) {
        return isPin(pin) ? SORTS.indexOf(play.pins.get(pin).sort) : BAD;
    }

    int as(int pin, int kind) {
        if (!isPin(pin) || !in(kind, 0, 5)) {
            return BAD;
        }
        return IS.get(play.pins.get(pin).sort).contains(kind) ? fine(pin) : told(3);
    }

    int ask(int pin, int what) {
        if (!isPin(pin) || !in(what, 0, 1)) {
            return BAD;
        }
        trace.clear();
        return what == 0 ? size(pin) : mark(pin);
    }

    private int size(int pin) {
        return body(pin, switch (play.pins.get(pin).sort) {
            case "lefter" -> 12;
            case "lamp" -> 13;
            case "gate" -> 14;
            default -> 11;
        });
    }

    private int mark(int pin) {
        return body(pin, switch (play.pins.get(pin).sort) {
            case "bumper" -> 21;
            case "righter" -> 22;
            case "lefter" -> 24;
            default -> 23;
        });
    }

    private int body(int pin, int number) {
        if (trace.size() < 16) {
            trace.add(number);
        }
        return switch (number) {
            case 10 -> play.pins.get(pin).pays;
            case 11 -> body(pin, 10) + mark(pin);
            case 12 -> 0 - body(pin, 11);
            case 13 -> body(pin, 10) - 100;
            case 14 -> 2 * body(pin, 13);
            case 20 -> pin;
            case 21 -> body(pin, 20) + play.struck.get(pin);
            case 22 -> body(pin, 21) - 1000;
            case 23 -> body(pin, 20) - size(pin);
            default -> 2 * body(pin, 21);
        };
    }

    int trace(int i) {
        return in(i, 0, trace.size() - 1) ? trace.get(i) : NONE;
    }

    int count(int what) {
        return switch (what) {
            case 0 -> (int) Arrays.stream(rows).filter(r -> r != null).count();
            case 1 -> play == null ? 0 : play.pins.size();
            case 2 -> play == null ? 0 : play.steps;
            case 3 -> acts.size();
            case 4 -> play == null ? 0 : play.tilt;
            case 5 -> tape.length();
            default -> BAD;
        };
    }

    int status() {
        return status;
    }
}
