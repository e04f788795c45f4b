/** Promises 24, 25 and 36 to 39: far, wall, trust, escape, wears, listen. */
public final class KnockTest {
    private static final String FIVE =
            "sw2l20g10b2;ct3m4b1;ct5m9x0b7;ct2m2x1;ct8m9h2b0;ct1m0h10b9;vn4p3;vn7p10;vn1p0";

    public static void main(String[] args) {
        far();
        wall();
        listen();
        trust();
        escape();
        wears();
        Tester.end();
    }

    private static void far() {
        OneWindow x = Tester.fort(FIVE);
        int[] want = {12, 15, 20, 18, 10};
        for (int cell = 0; cell < 5; cell++) {
            Tester.due("far " + cell, x.far(1, cell), want[cell]);
        }
        Tester.due("no such event", x.far(3, 0), -1);
        Tester.due("event -1", x.far(-1, 0), -1);
        Tester.due("no such cell", x.far(0, 5), -1);
        Tester.due("cell -1", x.far(0, -1), -1);
        Tester.hold(x, "y:m>8?16;y:t*n");
        int[] byLaw = {0, 4, 20, 4, 3};
        int[] ofTwo = {1, 4, 20, 4, 3};
        for (int cell = 0; cell < 5; cell++) {
            Tester.due("event 0 by law in " + cell, x.far(0, cell), cell == 4 ? 0 : byLaw[cell]);
            Tester.due("event 2 by law in " + cell, x.far(2, cell), cell == 4 ? 0 : ofTwo[cell]);
        }
        Tester.hold(x, "y:0-5");
        Tester.due("a wall takes no less than 0", x.far(0, 0), 20);
        OneWindow y = Tester.fort("sl60;c;c;c;v");
        Tester.hold(y, "y:9999");
        Tester.due("not below 0", y.far(0, 1), 0);
        Tester.hold(y, "y:d=0&m=3&t=4&k=0&n=3&g=0?30;y:1");
        Tester.due("exactly 0", y.far(0, 2), 0);
        Tester.due("30", y.far(0, 1), 30);
    }

    private static void wall() {
        OneWindow x = Tester.fort(FIVE);
        Tester.due("all hear it below", x.wall(0, 0), -1);
        Tester.due("all hear it above", x.wall(0, 1), -1);
        Tester.hold(x, "y:m>8?16;y:t*n");
        Tester.due("below cell 1", x.wall(0, 0), 1);
        Tester.due("event 2 is heard", x.wall(2, 0), -1);
        Tester.due("above cell 3", x.wall(0, 1), 3);
        Tester.hold(x, "y:20");
        Tester.due("the window's own, below", x.wall(1, 0), 2);
        Tester.due("the window's own, above", x.wall(1, 1), 2);
        Tester.due("side 2", x.wall(1, 2), -1);
        Tester.due("side -1", x.wall(1, -1), -1);
        Tester.due("no such event", x.wall(3, 1), -1);
        Tester.due("event -1", x.wall(-1, 1), -1);
        OneWindow y = Tester.fort("sw1l1;c;c;v");
        Tester.due("no cell above", y.wall(0, 1), -1);
        Tester.due("cell 1", y.wall(0, 0), 1);
    }

    private static void listen() {
        OneWindow x = Tester.fort(FIVE);
        Tester.due("all but the teller", x.listen(0), 27);
        Tester.due("whatever it leaves out", x.listen(1), 27);
        Tester.hold(x, "y:m>8?16;y:t*n");
        Tester.due("cells 1 and 3", x.listen(0), 10);
        x.move(0, 1);
        // cell 1 has prisoner 0 with merit 4: 5*4 = 20 leave nothing there
        Tester.due("cell 3 alone", x.listen(0), 8);
        Tester.due("no such event", x.listen(3), -1);
        Tester.due("event -1", x.listen(-1), -1);
    }

    private static void trust() {
        OneWindow x = Tester.fort(FIVE);
        Tester.due("cell 0", x.trust(0), 2);
        Tester.due("cell 1", x.trust(1), 0);
        Tester.due("the window's", x.trust(2), 0);
        Tester.due("cell 4", x.trust(4), 8);
        Tester.due("cell 5", x.trust(5), -1);
        Tester.due("cell -1", x.trust(-1), -1);
        x.move(3, 0);
        Tester.due("who sits there now", x.trust(4), 1);
        OneWindow y = Tester.fort("sw6;c;c;c;c;c;c;c;v");
        Tester.due("five", y.trust(0), 62);
    }

    private static void escape() {
        OneWindow x = Tester.fort("sl5;ct2;ct4;ct1;ct9;v");
        // from 0: 5 3 0 0, from 1: 3 5 1 0, from 2: 0 1 5 4, from 3: 0 0 4 5
        Tester.due("nobody: the fewest others", x.escape(0, 0), 0);
        Tester.due("0: it sits there, 1 hears", x.escape(1, 0), 0);
        Tester.due("1: from 0 alone", x.escape(2, 0), 0);
        Tester.due("2: from 3 alone", x.escape(4, 0), 3);
        Tester.due("3: from 2, and 1 hears; from 3, and 2 hears", x.escape(8, 0), 2);
        Tester.due("1 and 2: from 1, and 0 hears; from 2, and 3 hears", x.escape(6, 0), 1);
        Tester.due("0, 1 and 2", x.escape(7, 0), 1);
        Tester.due("2 and 3", x.escape(12, 0), 3);
        Tester.due("0 and 3", x.escape(9, 0), -1);
        Tester.due("all", x.escape(15, 0), -1);
        Tester.due("a fifth", x.escape(16, 0), -1);
        Tester.due("-1", x.escape(-1, 0), -1);
        Tester.due("no such event", x.escape(1, 1), -1);
        Tester.due("a fifth beside others", x.escape(17, 0), -1);
        Tester.due("far beyond", x.escape(Integer.MAX_VALUE, 0), -1);
        x.move(0, 3);
        Tester.due("3 sits in 0 now", x.escape(10, 0), 0);
        OneWindow y = Tester.fort("sw1l9;ct2;ct3;cx0;vn1");
        Tester.hold(y, "y:m+t*2");
        Tester.due("by law: 9-7, then 0", y.escape(2, 0), 0);
        Tester.due("whatever it leaves out", y.escape(4, 0), 2);
    }

    private static void wears() {
        OneWindow x = Tester.fort(FIVE);
        Tester.due("5 a day of 10", x.wears(), 2);
        x.see(0);
        x.tell();
        Tester.due("6 are left", x.wears(), 2);
        x.days(1);
        x.see(2);
        x.tell();
        Tester.due("5 are left", x.wears(), 1);
        x.move(2, 0);
        x.code();
        Tester.due("12 a day", x.wears(), 1);
        OneWindow y = Tester.fort("sg99;cx0;c;vn1");
        Tester.due("never", y.wears(), -1);
        y.move(0, 1);
        Tester.due("99 days", y.wears(), 99);
        OneWindow z = Tester.fort("sg1;cx0;c;vn1");
        z.move(0, 1);
        z.see(0);
        z.tell();
        Tester.due("now", z.wears(), 0);
        z.move(0, 1);
        Tester.due("now, whoever tells", z.wears(), 0);
    }
}
