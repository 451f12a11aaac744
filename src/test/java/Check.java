/** Counts answers that are not the ones that are due. */
final class Check {
    static final int NONE = -1000000, BAD = -1000001, STATE = -1000002, FULL = -1000003;
    static final int NULL = -1000011, PLACE = -1000012, KIND = -1000013, SIZE = -1000014, STORE = -1000015;
    static final int MIN = Integer.MIN_VALUE, MAX = Integer.MAX_VALUE;

    private final String about;
    private String words = "";
    private int sentences = 0;
    private int wrong = 0;
    private int asked = 0;

    Check(String about) {
        this.about = about;
    }

    /** The words of the document that are asked for from here on. */
    void sentence(String newWords) {
        words = newWords;
        sentences++;
    }

    void due(String call, long got, long want) {
        asked++;
        if (got != want) {
            wrong++;
            System.out.println(about + ", '" + words + "': " + call + " answered " + got + ", due is " + want);
        }
    }

    void holds(String what, boolean holds) {
        due(what, holds ? 1 : 0, 1);
    }

    void end() {
        System.out.println(about + ": " + sentences + " sentences, " + asked + " asked, " + wrong + " wrong");
        if (wrong != 0 || asked == 0) {
            System.exit(1);
        }
    }

    /** Feeds a text, eight bytes at a time, and reads it. */
    static int read(BumperBalls x, String text) {
        feed(x, text);
        return x.table();
    }

    static void feed(BumperBalls x, String text) {
        for (int from = 0; from < text.length(); from += 8) {
            String part = text.substring(from, Math.min(text.length(), from + 8));
            long w = 0;
            for (char c : part.toCharArray()) {
                w = w << 8 | c;
            }
            x.feed(w, part.length());
        }
    }

    static BumperBalls with(String text) {
        BumperBalls x = new BumperBalls();
        int pins = read(x, text);
        if (pins < 0) {
            throw new IllegalStateException(text + " was not read: " + pins);
        }
        return x;
    }

    /** A row of bytes with these items. */
    static void fill(BumperBalls x, int row, int... items) {
        fill(x, row, 0, items);
    }

    static void fill(BumperBalls x, int row, int lane, int[] items) {
        x.row(row, lane, items.length);
        for (int i = 0; i < items.length; i++) {
            x.set(row, i, items[i]);
        }
    }
}
