/** Promises 12 to 19, 48 and 49: see, tell, move, mirror, code, days, years, undo, image, back. */
public final class ActTest {
    private static final String FIVE =
            "sw2l20g10b2;ct3m4b1;ct5m9x0b7;ct2m2x1;ct8m9h2b0;ct1m0h10b9;vn4p3;vn7p10;vn1p0";

    public static void main(String[] args) {
        see();
        tell();
        wornWhileTold();
        move();
        mirror();
        code();
        days();
        lastDay();
        years();
        guardsOfYears();
        undo();
        undoOfDays();
        image();
        Tester.end();
    }

    private static void see() {
        OneWindow x = Tester.fort(FIVE);
        Tester.due("see 1", x.see(1), 2);
        Tester.due("see 0", x.see(0), 3);
        Tester.due("see 0 again", x.see(0), -1);
        Tester.due("see 3", x.see(3), -1);
        Tester.due("see -1", x.see(-1), -1);
        Tester.due("see 33", x.see(33), -1);
        Tester.due("two acts", x.count(15), 2);
        Tester.due("seen", x.count(8), 3);
        Tester.due("nobody knows by seeing", Tester.prisoner(x, 2, 5), 0);
        x.tell();
        Tester.due("seen behind the telling", x.see(2), 7);
        Tester.due("is not known", Tester.prisoner(x, 2, 5), 3);
    }

    private static void tell() {
        OneWindow x = Tester.fort(FIVE);
        x.see(0);
        x.see(1);
        x.see(2);
        x.mirror(0, 6);
        Tester.due("events 0 and 2, four hear each", x.tell(), 8);
        int[] bread = {1, 3, 13, 0, 5};
        int[] knows = {7, 5, 7, 5, 5};
        for (int i = 0; i < 5; i++) {
            Tester.due("bread " + i, Tester.prisoner(x, i, 4), bread[i]);
            Tester.due("knows " + i, Tester.prisoner(x, i, 5), knows[i]);
        }
        Tester.due("learnt", x.count(10), 5);
        Tester.due("told", x.count(9), 1);
        Tester.due("told twice", x.tell(), -1);
        x.days(1);
        Tester.due("not told", x.count(9), 0);
        Tester.due("learnt stays", x.count(10), 5);
        Tester.due("nobody knows", Tester.prisoner(x, 2, 5), 0);
        Tester.due("nothing seen", x.tell(), 0);
        Tester.due("is told", x.count(9), 1);
        x.days(1);
        Tester.due("heard of the day", x.log(0, 1), 0);
        Tester.due("heard of the first", x.log(1, 1), 8);
    }

    private static void wornWhileTold() {
        OneWindow x = Tester.fort("sg10b0;c;c;c;vn4;vn6;vn9;v");
        x.see(0);
        x.see(1);
        x.see(2);
        Tester.due("the third is not told", x.tell(), 4);
        Tester.due("learnt 10", x.count(10), 10);
        Tester.due("the teller knows all", Tester.prisoner(x, 0, 5), 7);
        Tester.due("others two", Tester.prisoner(x, 2, 5), 3);
        x.days(1);
        Tester.due("worn", x.tell(), -1);
        Tester.due("a code anew", x.code(), 0);
        Tester.due("told", x.tell(), 0);
        OneWindow y = Tester.fort("sg11b0;c;c;c;vn4;vn6;vn9;v");
        y.see(0);
        y.see(1);
        y.see(2);
        Tester.due("10 are less than 11", y.tell(), 6);
        Tester.due("learnt 19", y.count(10), 19);
        y.code();
        Tester.due("told today", y.tell(), -1);
        OneWindow z = Tester.fort("sl4;ct3;ct1;c;v");
        z.see(0);
        Tester.due("1 is heard, 0 is not", z.tell(), 1);
    }

    private static void move() {
        OneWindow x = Tester.fort(FIVE);
        Tester.due("teller stays", x.move(0, 1), 2);
        Tester.due("0 in 1", Tester.prisoner(x, 0, 0), 1);
        Tester.due("teller 4", x.move(2, 4), 4);
        Tester.due("cell 4", x.cell(4, 1), 2);
        Tester.due("alike", x.move(1, 1), -1);
        Tester.due("no such one", x.move(5, 1), -1);
        Tester.due("no such other", x.move(1, 5), -1);
        Tester.due("-1", x.move(-1, 1), -1);
        Tester.due("other -1", x.move(1, -1), -1);
        Tester.due("teller", x.count(7), 4);
        Tester.due("acts", x.count(15), 2);
        Tester.due("teller 1", x.move(4, 1), 1);
        Tester.due("1 left cell 0", x.cell(0, 1), 4);
    }

    private static void mirror() {
        OneWindow x = Tester.fort("sl1;c;c;v;v");
        Tester.due("none is so", x.mirror(1, 0), false);
        Tester.due("all", x.mirror(1, 3), true);
        Tester.due("too many", x.mirror(1, 4), false);
        Tester.due("less than none", x.mirror(1, -1), false);
        Tester.due("no such one", x.mirror(2, 1), false);
        Tester.due("-1", x.mirror(-1, 1), false);
        Tester.due("again", x.mirror(1, 3), false);
        Tester.due("changed", x.mirror(1, 2), true);
        Tester.due("it is", Tester.prisoner(x, 1, 6), 2);
        x.see(0);
        x.see(1);
        Tester.due("nobody knows", Tester.prisoner(x, 1, 5), 0);
        Tester.due("nobody hears", x.tell(), 0);
        Tester.due("by the mirror", Tester.prisoner(x, 1, 5), 2);
        x.mirror(1, 3);
        Tester.due("not behind the telling", Tester.prisoner(x, 1, 5), 2);
        x.days(1);
        Tester.due("it stays", Tester.prisoner(x, 1, 6), 3);
        Tester.due("none", x.mirror(1, 0), true);
    }

    private static void code() {
        OneWindow x = Tester.fort("cb1;cb3;cb3;vn7");
        x.see(0);
        x.tell();
        Tester.due("the teller got 2", Tester.prisoner(x, 0, 4), 3);
        Tester.due("the lowest of those who have most", x.code(), 0);
        Tester.due("learnt 0", x.count(10), 0);
        Tester.due("bread", Tester.prisoner(x, 0, 4), 1);
        Tester.due("the next", x.code(), 1);
        Tester.due("the last", x.code(), 2);
        Tester.due("nobody has 2", x.code(), -1);
        Tester.due("bread of all", x.count(11), 1);
        Tester.due("acts", x.count(15), 5);
    }

    private static void days() {
        OneWindow x = Tester.fort(FIVE);
        x.see(1);
        Tester.due("0 days", x.days(0), -1);
        Tester.due("61 days", x.days(61), -1);
        Tester.due("-1 days", x.days(-1), -1);
        Tester.due("3 days", x.days(3), 3);
        Tester.due("seen on the first alone", x.log(2, 0), 2);
        Tester.due("not on the second", x.log(1, 0), 0);
        Tester.due("nothing seen", x.count(8), 0);
        Tester.due("four acts", x.count(15), 4);
        Tester.due("60 days", x.days(60), 63);
        Tester.due("40 acts", x.count(15), 40);
    }

    private static void lastDay() {
        OneWindow x = Tester.fort("c;c;v");
        for (int i = 0; i < 166; i++) {
            x.days(60);
        }
        Tester.due("9960", x.days(40), -1);
        Tester.due("years likewise", x.years(40, 1L), -1);
        Tester.due("9999", x.days(39), 9999);
        Tester.due("none ends", x.days(1), -1);
        Tester.due("no year", x.years(1, 1L), -1);
        Tester.text(x, Tester.PLAN, "t;e");
        Tester.due("nor by a plan", x.run(0, 0), 1);
        Tester.due("undone", x.undo(), 39);
        Tester.due("one day", x.years(1, 1L), 9999);
    }

    private static long next(long x) {
        return x * 6364136223846793005L + 1442695040888963407L;
    }

    private static int draw(long x) {
        return (int) ((x >>> 33) % 10);
    }

    private static void years() {
        int[] chances = {3, 0, 10, 7};
        for (long seed : new long[] {0, 1, -1, 77, Long.MIN_VALUE, 123456789012345L}) {
            OneWindow x = Tester.fort("sb0g99;c;c;vn1p3;vn1p0;vn1p10;vn1p7");
            x.see(1);
            Tester.due("9 days", x.years(9, seed), 9);
            Tester.due("9 acts and one", x.count(15), 10);
            long at = seed;
            int learnt = 0;
            for (int day = 0; day < 9; day++) {
                int seen = day == 0 ? 2 : 0;
                for (int event = 0; event < 4; event++) {
                    if ((seen >> event & 1) == 0) {
                        at = next(at);
                        seen |= draw(at) < chances[event] ? 1 << event : 0;
                    }
                }
                at = next(at);
                learnt += Integer.bitCount(seen);
                Tester.due("seen on day " + day, x.log(8 - day, 0), seen);
                Tester.due("heard on day " + day, x.log(8 - day, 1), Integer.bitCount(seen));
                Tester.due("learnt by day " + day, x.log(8 - day, 2), learnt);
            }
        }
        OneWindow y = Tester.fort("c;c;v");
        Tester.due("0 days", y.years(0, 5L), -1);
        Tester.due("61 days", y.years(61, 5L), -1);
        Tester.due("60 days", y.years(60, 5L), 60);
    }

    private static void guardsOfYears() {
        OneWindow x = Tester.fort("sw1;cm1;cm9;cm5;cm5;vp0");
        x.guards(5);
        long at = 4;
        int teller = 1;
        int moves = 0;
        for (int day = 0; day < 12; day++) {
            x.years(1, at);
            at = next(next(at));
            if (draw(at) < 5) {
                teller = teller == 1 ? 2 : 1;
                moves++;
            }
            Tester.due("teller of day " + day, x.count(7), teller);
        }
        Tester.due("some of both", moves > 0 && moves < 12, true);
        OneWindow y = Tester.fort("sg1b0;c;c;vn1p10");
        y.tell();
        y.years(2, 3L);
        Tester.due("told by hand already", y.log(1, 1), 0);
        Tester.due("seen all the same", y.log(1, 0), 1);
        Tester.due("told on the second", y.log(0, 1), 1);
        y.years(1, 3L);
        Tester.due("worn", y.log(0, 1), 0);
    }

    private static void undo() {
        OneWindow x = Tester.fort(FIVE);
        Tester.due("none", x.undo(), -1);
        x.see(0);
        x.see(2);
        x.mirror(3, 4);
        x.tell();
        x.move(2, 0);
        x.code();
        x.days(1);
        Tester.due("the day", x.undo(), 6);
        Tester.due("day 0", x.count(6), 0);
        Tester.due("known again", Tester.prisoner(x, 2, 5), 5);
        Tester.due("no log", x.count(14), 0);
        Tester.due("the code", x.undo(), 5);
        Tester.due("learnt again", x.count(10), 5);
        Tester.due("bread back", Tester.prisoner(x, 2, 4), 13);
        Tester.due("the move", x.undo(), 4);
        Tester.due("teller", x.count(7), 2);
        Tester.due("the telling", x.undo(), 3);
        Tester.due("bread", Tester.prisoner(x, 2, 4), 5);
        Tester.due("not told", x.count(9), 0);
        Tester.due("nothing known", Tester.prisoner(x, 2, 5), 0);
        Tester.due("the mirror", x.undo(), 2);
        Tester.due("no mirror", Tester.prisoner(x, 3, 6), 0);
        Tester.due("see 2", x.undo(), 1);
        Tester.due("seen", x.count(8), 1);
        Tester.due("see 0", x.undo(), 0);
        Tester.due("none more", x.undo(), -1);
        Tester.due("see again", x.see(0), 1);
        Tester.due("what was said is no act", x.said(0, 0, true), 1);
        x.guards(2);
        x.law(-1);
        Tester.due("nor are guards and laws", x.undo(), 0);
        Tester.due("said stays", x.count(13), 1);
    }

    private static void undoOfDays() {
        OneWindow x = Tester.fort("sg99;c;c;vn1");
        for (int day = 0; day < 110; day++) {
            if (day % 3 == 0) {
                x.see(0);
                x.tell();
                x.days(1);
            } else {
                x.days(1);
            }
        }
        x.days(45);
        Tester.due("40 acts", x.count(15), 40);
        for (int left = 39; left >= 0; left--) {
            Tester.due("undone", x.undo(), left);
        }
        Tester.due("day 115", x.count(6), 115);
        Tester.due("60 logged", x.count(14), 60);
        for (int i = 0; i < 60; i++) {
            int day = 114 - i;
            boolean told = day < 110 && day % 3 == 0;
            Tester.due("log of day " + day, x.log(i, 0), told ? 1 : 0);
            Tester.due("heard of day " + day, x.log(i, 1), told ? 1 : 0);
        }
    }

    private static void image() {
        OneWindow x = Tester.fort(FIVE);
        Tester.due("no image", x.back(), -1);
        x.days(2);
        x.see(0);
        x.mirror(1, 2);
        x.tell();
        x.move(1, 2);
        Tester.due("image", x.image(), 2);
        Tester.due("is no act", x.count(15), 6);
        x.code();
        x.mirror(1, 0);
        x.days(60);
        x.days(60);
        x.move(0, 1);
        x.said(0, 0, true);
        x.guards(3);
        Tester.due("back", x.back(), 2);
        Tester.due("no act", x.count(15), 0);
        Tester.due("no undo", x.undo(), -1);
        Tester.due("teller", x.count(7), 1);
        Tester.due("seen", x.count(8), 1);
        Tester.due("told", x.count(9), 1);
        Tester.due("learnt", x.count(10), 4);
        Tester.due("mirror", Tester.prisoner(x, 1, 6), 2);
        Tester.due("knows", Tester.prisoner(x, 4, 5), 1);
        Tester.due("bread", Tester.prisoner(x, 2, 4), 9);
        Tester.due("log", x.count(14), 2);
        Tester.due("said stays", x.count(13), 1);
        Tester.due("guards stay", x.count(12), 3);
        x.days(1);
        Tester.due("heard was kept", x.log(0, 1), 4);
        Tester.due("back again", x.back(), 2);
        x.days(5);
        Tester.due("another image", x.image(), 7);
        x.days(1);
        for (int i = 0; i < 100; i++) {
            x.see(i % 3);
            x.days(1);
        }
        Tester.due("is the one", x.back(), 7);
        Tester.due("its latest", x.log(0, 0), 0);
        Tester.due("no eighth", x.log(7, 0), -1);
        Tester.due("its log", x.log(4, 1), 4);
    }
}
