import java.util.NoSuchElementException;

/** What the tests share: texts put on the tape, answers held against those that are due. */
final class Tester {
    static final int NONE = OneWindow.NONE;
    static final int HIDDEN = OneWindow.HIDDEN;
    static final int THROWS = -7777777;
    static final int FORT = 0;
    static final int LAW = 1;
    static final int PLAN = 2;

    private static int asked = 0;
    private static int wrong = 0;

    private Tester() {
    }

    static void due(String call, long got, long want) {
        asked++;
        if (got != want) {
            wrong++;
            System.out.println(call + " answered " + got + ", due is " + want);
        }
    }

    static void due(String call, boolean got, boolean want) {
        due(call, got ? 1 : 0, want ? 1 : 0);
    }

    static void end() {
        System.out.println(asked + " answers, " + wrong + " wrong");
        if (wrong != 0 || asked == 0) {
            System.exit(1);
        }
    }

    /** Puts a text on an emptied tape; its signs are bytes, none of them 0. */
    static void put(OneWindow x, String text) {
        x.end(0);
        for (int at = 0; at < text.length(); at += 20) {
            x.feed(word(text, at), word(text, at + 4), word(text, at + 8), word(text, at + 12), word(text, at + 16));
        }
    }

    private static int word(String text, int at) {
        int value = 0;
        for (int i = at; i < at + 4; i++) {
            value = value << 8 | (i < text.length() ? text.charAt(i) & 255 : 0);
        }
        return value;
    }

    static int fault(OneWindow x, int sort, String text) {
        put(x, text);
        return x.fault(sort);
    }

    static int text(OneWindow x, int sort, String text) {
        put(x, text);
        return x.text(sort);
    }

    static OneWindow fort(String text) {
        OneWindow x = new OneWindow();
        if (text(x, FORT, text) == NONE) {
            throw new IllegalStateException("no fort: " + text);
        }
        return x;
    }

    /** A law that is told and holds. */
    static void hold(OneWindow x, String law) {
        int number = text(x, LAW, law);
        if (number == NONE || !x.law(number)) {
            throw new IllegalStateException("no law: " + law);
        }
    }

    static int prisoner(OneWindow x, int prisoner, int what) {
        try {
            return x.prisoner(prisoner, what);
        } catch (NoSuchElementException none) {
            return THROWS;
        }
    }

    static String times(String text, int n) {
        return text.repeat(n);
    }
}
