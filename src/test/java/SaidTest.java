/** Promises 29 to 35: said, least, truths, sure, ask, liars, belief. */
public final class SaidTest {
    public static void main(String[] args) {
        said();
        oneAgainstAnother();
        oneAgainstItself();
        byCounting();
        beliefs();
        wrongInputs();
        Tester.end();
    }

    private static void said() {
        OneWindow x = Tester.fort("c;c;c;v;v");
        Tester.due("no such prisoner", x.said(3, 0, true), -1);
        Tester.due("prisoner -1", x.said(-1, 0, true), -1);
        Tester.due("no such event", x.said(0, 2, true), -1);
        Tester.due("event -1", x.said(0, -1, false), -1);
        for (int i = 1; i <= 16; i++) {
            Tester.due("said", x.said(0, 0, true), i);
        }
        Tester.due("a 17th", x.said(0, 1, true), -1);
        Tester.due("count", x.count(13), 16);
        Tester.due("sure of the first alone", x.sure(0, 0), 1);
        x.days(1);
        Tester.due("they stay", x.count(13), 16);
    }

    private static void oneAgainstAnother() {
        OneWindow x = Tester.fort("c;c;c;v;v;v");
        x.said(0, 0, true);
        x.said(0, 1, true);
        x.said(1, 0, false);
        x.said(2, 1, false);
        // truths by bits 0 and 1: 00: 0 lies; 01: 0, 1; 10: 0, 2; 11: 1, 2
        Tester.due("least", x.least(), 1);
        Tester.due("none without a liar", x.truths(0, -1), 0);
        Tester.due("with one", x.truths(1, -1), 2);
        Tester.due("first", x.truths(1, 0), 0);
        Tester.due("second", x.truths(1, 1), 4);
        Tester.due("no third", x.truths(1, 2), -1);
        Tester.due("with two", x.truths(2, -1), 8);
        Tester.due("with seven", x.truths(7, 5), 5);
        Tester.due("liars", x.liars(), 1);
        Tester.due("sure", x.sure(1, 0), 0);
        Tester.due("never", x.sure(1, 1), 3);
        Tester.due("sure of none", x.sure(0, 0), -1);
        Tester.due("never of none", x.sure(0, 1), -1);
        Tester.due("ask", x.ask(1), 2);
        Tester.due("ask the lowest", x.ask(2), 0);
        Tester.due("ask of none", x.ask(0), -1);
    }

    private static void oneAgainstItself() {
        OneWindow x = Tester.fort("c;ch3;c;v;v");
        x.said(1, 0, true);
        x.said(1, 0, false);
        x.said(2, 1, true);
        Tester.due("1 lies by every truth", x.least(), 1);
        Tester.due("liars", x.liars(), 2);
        Tester.due("truths", x.truths(1, -1), 2);
        Tester.due("sure", x.sure(1, 0), 2);
        Tester.due("not of it", x.belief(0), 500000);
        Tester.due("of the other", x.belief(1), 900000);
    }

    /** Held against lists of what was said, for many draws. */
    private static void byCounting() {
        long seed = 9;
        for (int turn = 0; turn < 80; turn++) {
            int events = 1 + turn % 6;
            int cells = 2 + turn % 5;
            OneWindow x = Tester.fort(Tester.times("c;", cells) + Tester.times("v;", events - 1) + "v");
            int sayings = turn % 17;
            int[][] list = new int[sayings][3];
            for (int i = 0; i < sayings; i++) {
                for (int part = 0; part < 3; part++) {
                    seed = seed * 6364136223846793005L + 1442695040888963407L;
                    int bound = part == 0 ? cells : part == 1 ? events : 2;
                    list[i][part] = (int) ((seed >>> 33) % bound);
                }
                x.said(list[i][0], list[i][1], list[i][2] == 1);
            }
            heldAgainst(x, list, events, cells);
        }
    }

    private static int lying(int[][] list, int truth) {
        int bits = 0;
        for (int[] one : list) {
            bits |= (truth >> one[1] & 1) != one[2] ? 1 << one[0] : 0;
        }
        return bits;
    }

    private static void heldAgainst(OneWindow x, int[][] list, int events, int cells) {
        int fewest = 99;
        for (int truth = 0; truth < 1 << events; truth++) {
            fewest = Math.min(fewest, Integer.bitCount(lying(list, truth)));
        }
        Tester.due("least", x.least(), fewest);
        int always = (1 << cells) - 1;
        for (int truth = 0; truth < 1 << events; truth++) {
            int bits = lying(list, truth);
            always &= Integer.bitCount(bits) == fewest ? bits : -1;
        }
        Tester.due("liars", x.liars(), always);
        for (int v = 0; v <= 7; v++) {
            int[] yes = new int[events];
            int found = 0;
            for (int truth = 0; truth < 1 << events; truth++) {
                if (Integer.bitCount(lying(list, truth)) <= v) {
                    Tester.due("truth", x.truths(v, found), truth);
                    found++;
                    for (int event = 0; event < events; event++) {
                        yes[event] += truth >> event & 1;
                    }
                }
            }
            Tester.due("truths", x.truths(v, -1), found);
            int sure = 0;
            int never = 0;
            int ask = 0;
            for (int event = 0; event < events; event++) {
                sure |= yes[event] == found ? 1 << event : 0;
                never |= yes[event] == 0 ? 1 << event : 0;
                ask = Math.abs(2 * yes[event] - found) < Math.abs(2 * yes[ask] - found) ? event : ask;
            }
            Tester.due("sure", x.sure(v, 0), found == 0 ? -1 : sure);
            Tester.due("never", x.sure(v, 1), found == 0 ? -1 : never);
            Tester.due("ask", x.ask(v), found == 0 ? -1 : ask);
        }
    }

    private static void beliefs() {
        OneWindow x = Tester.fort("ch9;ch4;ch0;vp3;vp7;vp0");
        Tester.due("p of ten", x.belief(0), 300000);
        Tester.due("p of ten of the second", x.belief(1), 700000);
        Tester.due("never", x.belief(2), 0);
        x.said(0, 0, true);
        // 3*9 of 3*9 + 7*1
        Tester.due("27 of 34", x.belief(0), 794117);
        Tester.due("the second as it was", x.belief(1), 700000);
        x.said(0, 1, false);
        // both so: 3*3*9 = 81; else 1 each: 3*7 + 7*3 + 7*7 = 91; the first: 81 + 21 of 172
        Tester.due("102 of 172", x.belief(0), 593023);
        Tester.due("21 + 49 of 172", x.belief(1), 406976);
        x.said(2, 1, false);
        Tester.due("who never tells what is so", x.belief(1), 1000000);
        x.said(2, 1, true);
        Tester.due("lies by each truth", x.belief(1), 406976);
        OneWindow y = Tester.fort(Tester.times("ch10;", 7) + Tester.times("vp10;", 5) + "vp10");
        for (int i = 0; i < 7; i++) {
            y.said(i, i % 6, true);
        }
        Tester.due("as sure as can be, in numbers beyond a long", y.belief(5), 1000000);
        OneWindow z = Tester.fort(Tester.times("ch10;", 7) + Tester.times("vp10;", 5) + "vp9");
        for (int i = 0; i < 7; i++) {
            z.said(i, i % 5, true);
        }
        Tester.due("nine of ten", z.belief(5), 900000);
        OneWindow w = Tester.fort("ch10;ch10;vp5");
        w.said(0, 0, true);
        w.said(1, 0, false);
        Tester.due("together 0", w.belief(0), -1);
    }

    private static void wrongInputs() {
        OneWindow x = Tester.fort("c;c;v");
        for (int v : new int[] {-1, 8, Integer.MAX_VALUE, Integer.MIN_VALUE}) {
            Tester.due("truths " + v, x.truths(v, -1), -1);
            Tester.due("sure " + v, x.sure(v, 0), -1);
            Tester.due("ask " + v, x.ask(v), -1);
        }
        Tester.due("i -2", x.truths(0, -2), -1);
        Tester.due("i 2", x.truths(0, 2), -1);
        Tester.due("sure what 2", x.sure(0, 2), -1);
        Tester.due("sure what -1", x.sure(0, -1), -1);
        Tester.due("belief 1", x.belief(1), -1);
        Tester.due("belief -1", x.belief(-1), -1);
    }
}
