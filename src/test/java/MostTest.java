/** Promises 28, 40 and 42 to 44: codes, merits, quiet, rich, most. */
public final class MostTest {
    public static void main(String[] args) {
        knownCodes();
        allCodes();
        merits();
        others();
        Tester.end();
    }

    private static String events(int[] chances) {
        StringBuilder text = new StringBuilder("c;c");
        for (int chance : chances) {
            text.append(";vp").append(chance);
        }
        return text.toString();
    }

    private static void codes(int[] chances, int digits, int sum) {
        OneWindow x = Tester.fort(events(chances));
        Tester.due("digits of " + events(chances), x.codes(0), digits);
        Tester.due("sum of " + events(chances), x.codes(1), sum);
    }

    private static void knownCodes() {
        codes(new int[] {7}, 1, 7);
        codes(new int[] {0}, 1, 0);
        codes(new int[] {3, 9}, 11, 12);
        codes(new int[] {5, 5, 5}, 122, 25);
        codes(new int[] {0, 0, 5}, 221, 5);
        codes(new int[] {10, 5, 3, 1}, 1233, 10 + 10 + 12);
        codes(new int[] {0, 0, 0, 0, 0, 0}, 123455, 0);
        codes(new int[] {5, 5, 5, 5, 5, 5}, 223333, 80);
        OneWindow x = Tester.fort("c;c;v");
        Tester.due("codes 2", x.codes(2), -1);
        Tester.due("codes -1", x.codes(-1), -1);
    }

    /** Held against all lengths, one after another. */
    private static void allCodes() {
        long seed = 5;
        for (int turn = 0; turn < 60; turn++) {
            int[] chances = new int[1 + turn % 6];
            for (int i = 0; i < chances.length; i++) {
                seed = seed * 6364136223846793005L + 1442695040888963407L;
                chances[i] = (int) ((seed >>> 33) % 11);
            }
            int bestSum = Integer.MAX_VALUE;
            int bestDigits = 0;
            int all = (int) Math.pow(10, chances.length);
            for (int digits = 0; digits < all; digits++) {
                int rest = digits;
                int room = 32;
                int sum = 0;
                boolean is = true;
                for (int event = chances.length - 1; event >= 0; event--) {
                    int length = rest % 10;
                    is &= length >= 1 && length <= 5;
                    room -= 32 >> length;
                    sum += length * chances[event];
                    rest /= 10;
                }
                if (is && room >= 0 && sum < bestSum) {
                    bestSum = sum;
                    bestDigits = digits;
                }
            }
            codes(chances, bestDigits, bestSum);
        }
    }

    private static void merits() {
        OneWindow x = Tester.fort("cm3;cm5;cm3;cm9;v");
        Tester.due("merits", x.merits(), 3102);
        x.move(0, 3);
        Tester.due("whoever sits where", x.merits(), 3102);
        Tester.due("0 first", Tester.fort("cm3;cm1;cm2;v").merits(), 21);
        Tester.due("seven", Tester.fort("cm0;cm1;cm2;cm3;cm4;cm5;cm6;v").merits(), 6543210);
    }

    private static void others() {
        OneWindow x = Tester.fort("sb2g99l5;ct1b5;ct1b7;ct9b7;c;vn4;vn2;vn9;vn2");
        Tester.due("quiet", x.quiet(), 1);
        Tester.due("rich", x.rich(), 1);
        Tester.due("most of nothing", x.most(), 0);
        x.see(0);
        x.see(1);
        x.mirror(3, 15);
        x.move(0, 1);
        x.tell();
        Tester.due("1 got the bread", x.rich(), 1);
        Tester.due("0, 1, 2 and 3 know two", x.most(), 0);
        x.days(1);
        x.see(2);
        x.see(3);
        x.mirror(3, 4);
        x.move(1, 2);
        x.mirror(0, 0);
        x.tell();
        Tester.due("0 hears what 2 tells", x.most(), 0);
        x.days(1);
        x.move(0, 3);
        x.see(2);
        x.tell();
        // 2 tells; 3 in cell 1 and 1 in cell 2 hear it, 0 in cell 3 does not
        Tester.due("1 is the lowest that knows it", x.most(), 1);
        Tester.due("the first of one knock", Tester.fort("c;c;vn1;vn1").quiet(), 0);
    }
}
