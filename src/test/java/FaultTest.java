import java.util.Random;

/**
 * FAULT by its definition, "the first byte at which no such TEXT can go on": what stands ahead of it can go on to a whole
 * text, and whatever comes behind it mends nothing. Only numbers of a fort are told otherwise ("wrong at its last digit").
 */
public final class FaultTest {
    private static final int ROUNDS = 9000;
    private static final int MOST_MORE = 40;
    /** Those that close come first, so that going on by the first that can stand comes to an end. */
    private static final String LAW_GOES_ON = "])?=1:y";
    private static final String PLAN_GOES_ON = "0t";
    private static final String SIGNS = "scvwlgbtmhxnpykde0123456789;:?|&!()[]=<>+-*/ z";

    private final Random draws = new Random(4711);
    private int gone;

    public static void main(String[] args) {
        FaultTest test = new FaultTest();
        for (int i = 0; i < ROUNDS; i++) {
            test.look(i % 3);
        }
        Tester.due("texts that went on", test.gone > ROUNDS / 2, true);
        allClauses();
        Tester.end();
    }

    private static int fault(int sort, String text) {
        return Tester.fault(new OneWindow(), sort, text);
    }

    private void look(int sort) {
        String right = sort == Tester.FORT ? Texts.fort(draws) : sort == Tester.LAW ? Texts.law(draws) : Texts.plan(draws);
        if (right.length() > 180) {
            return;
        }
        Tester.due("fault of " + right, fault(sort, right), Tester.NONE);
        String text = Texts.spoiled(draws, right);
        int at = fault(sort, text);
        if (at == Tester.NONE) {
            return;
        }
        Tester.due("a place of " + text, at >= 0 && at <= text.length(), true);
        boolean inNumber = sort == Tester.FORT && at < text.length() && Character.isDigit(text.charAt(at));
        if (!inNumber) {
            goesOn(sort, text.substring(0, at));
        }
        if (!inNumber && at < text.length()) {
            staysWrong(sort, text.substring(0, at + 1));
        }
        aheadOf(sort, text, at);
    }

    /** Goes on with the first sign by which the text is whole or ends too early, till it is whole. */
    private void goesOn(int sort, String begun) {
        String text = begun;
        for (int i = 0; i < MOST_MORE && fault(sort, text) != Tester.NONE; i++) {
            text = oneMore(sort, text);
        }
        Tester.due("goes on: " + begun + " by " + text, fault(sort, text), Tester.NONE);
        gone++;
    }

    private static String oneMore(int sort, String text) {
        if (sort == Tester.FORT) {
            return moreOfFort(text);
        }
        for (char sign : (sort == Tester.LAW ? LAW_GOES_ON : PLAN_GOES_ON).toCharArray()) {
            int wrong = fault(sort, text + sign);
            if (wrong == Tester.NONE || wrong == text.length() + 1) {
                return text + sign;
            }
        }
        return text;
    }

    /** A number that stands open gets a 1, then cells and an event come; a fort's letters may always end. */
    private static String moreOfFort(String text) {
        String[] heads = {"", "1", "c", "v", "s"};
        for (String head : heads) {
            for (int cells = 0; cells <= 7; cells++) {
                for (int events = 0; events <= 1; events++) {
                    String whole = text + head + ";c".repeat(cells) + ";v".repeat(events);
                    if (whole.length() <= 240 && fault(Tester.FORT, whole) == Tester.NONE) {
                        return whole;
                    }
                }
            }
        }
        return text;
    }

    private void staysWrong(int sort, String wrong) {
        for (int i = 0; i < 6; i++) {
            StringBuilder text = new StringBuilder(wrong);
            int more = draws.nextInt(12);
            for (int j = 0; j < more; j++) {
                text.append(SIGNS.charAt(draws.nextInt(SIGNS.length())));
            }
            Tester.due("stays wrong: " + text, fault(sort, text.toString()), wrong.length() - 1);
        }
    }

    /** Each beginning ahead of the fault is whole, or ends too early, or ends in a number that is still too low or too high. */
    private static void aheadOf(int sort, String text, int at) {
        for (int length = 0; length <= at; length++) {
            String begun = text.substring(0, length);
            int wrong = fault(sort, begun);
            boolean open = sort == Tester.FORT && length > 0 && Character.isDigit(begun.charAt(length - 1)) && wrong == length - 1;
            Tester.due("ahead of the fault: " + begun + " " + wrong, wrong == Tester.NONE || wrong == length || open, true);
        }
    }

    /** "a second s, an eighth c, a seventh v .. at it", behind all the clauses that there can be, too. */
    private static void allClauses() {
        String all = "s" + ";c".repeat(7) + ";v".repeat(6);
        Tester.due("all clauses", fault(Tester.FORT, all), Tester.NONE);
        for (String more : new String[] {"s", "c", "v"}) {
            Tester.due("one more " + more, fault(Tester.FORT, all + ";" + more), all.length() + 1);
        }
    }
}
