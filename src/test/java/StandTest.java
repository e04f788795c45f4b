/** Promises 6 to 11, 20 and 50: rule, prisoner, cell, event, law, guards, log, count; laws by their worth. */
public final class StandTest {
    public static void main(String[] args) {
        usual();
        told();
        laws();
        worths();
        letters();
        guards();
        log();
        Tester.end();
    }

    private static void usual() {
        OneWindow x = Tester.fort("c;c;v");
        int[] rules = {0, 20, 40, 1, -1};
        for (int what = -1; what < rules.length; what++) {
            Tester.due("usual rule " + what, x.rule(what), what < 0 ? -1 : rules[what]);
        }
        int[] prisoner = {1, 3, 9, -1, 5, 0, 0};
        for (int what = 0; what < prisoner.length; what++) {
            Tester.due("usual prisoner " + what, Tester.prisoner(x, 1, what), prisoner[what]);
        }
        Tester.due("thick", x.cell(1, 0), 4);
        Tester.due("knocks", x.event(0, 0), 3);
        Tester.due("chance", x.event(0, 1), 5);
        Tester.due("not seen", x.event(0, 2), 0);
    }

    private static void told() {
        OneWindow x = Tester.fort("v n 7 p 10;c t30 m9 h10 x1 b99;sw1l60g99b9;cx0b0;vp0n9;ct0m0h0x2");
        int[] rules = {1, 60, 99, 9};
        for (int what = 0; what < 4; what++) {
            Tester.due("rule " + what, x.rule(what), rules[what]);
        }
        int[][] prisoners = {{0, 9, 10, 1, 99, 0, 0}, {1, 3, 9, 0, 0, 0, 0}, {2, 0, 0, -1, 5, 0, 0}};
        for (int prisoner = -1; prisoner < 4; prisoner++) {
            for (int what = -1; what < 8; what++) {
                boolean is = prisoner >= 0 && prisoner < 3 && what >= 0 && what < 7;
                Tester.due("prisoner " + prisoner + " " + what, Tester.prisoner(x, prisoner, what),
                        is ? prisoners[prisoner][what] : Tester.THROWS);
            }
        }
        int[][] cells = {{30, 0}, {4, 1}, {0, 2}};
        for (int cell = -1; cell < 4; cell++) {
            for (int what = -1; what < 3; what++) {
                boolean is = cell >= 0 && cell < 3 && what >= 0 && what < 2;
                Tester.due("cell " + cell + " " + what, x.cell(cell, what), is ? cells[cell][what] : -1);
            }
        }
        x.see(1);
        int[][] events = {{7, 10, 0}, {9, 0, 1}};
        for (int event = -1; event < 3; event++) {
            for (int what = -1; what < 4; what++) {
                boolean is = event >= 0 && event < 2 && what >= 0 && what < 3;
                Tester.due("event " + event + " " + what, x.event(event, what), is ? events[event][what] : -1);
            }
        }
        Tester.due("bread of all", x.count(11), 104);
        Tester.due("teller", x.count(7), 1);
        Tester.due("count -1", x.count(-1), Tester.HIDDEN);
        Tester.due("count 16", x.count(16), Tester.HIDDEN);
        x.move(0, 2);
        Tester.due("walls stay with cells", x.cell(0, 0), 30);
        Tester.due("who sits there", x.cell(0, 1), 2);
        Tester.due("merit goes along", Tester.prisoner(x, 0, 1), 9);
        Tester.due("its cell", Tester.prisoner(x, 0, 0), 2);
    }

    private static void laws() {
        OneWindow x = Tester.fort("sl60;c;c;v");
        Tester.text(x, Tester.LAW, "y:1");
        Tester.text(x, Tester.LAW, "y:2");
        Tester.due("none holds at first", x.count(5), -1);
        Tester.due("thick 4", x.far(0, 1), 56);
        Tester.due("law 1", x.law(1), true);
        Tester.due("by law 1", x.far(0, 1), 58);
        Tester.due("law 2", x.law(2), false);
        Tester.due("law -2", x.law(-2), false);
        Tester.due("law 1 holds", x.count(5), 1);
        Tester.due("law 1 again", x.law(1), true);
        Tester.due("law 0", x.law(0), true);
        Tester.due("by law 0", x.far(0, 1), 59);
        Tester.due("none", x.law(-1), true);
        Tester.due("thick again", x.far(0, 1), 56);
        Tester.due("count", x.count(5), -1);
    }

    /** What a law takes shows as 60 less what is left of it; worths of 60 and more leave nothing. */
    private static void worth(String law, int want) {
        OneWindow x = Tester.fort("sl60;ct7;cm2;vn5;vn9");
        Tester.hold(x, law);
        Tester.due("worth of " + law, 60 - x.far(1, 1), want);
    }

    private static void worths() {
        worth("y:12", 12);
        worth("y:0012", 12);
        worth("y:t", 7);
        worth("y:n", 9);
        worth("y:m", 2);
        worth("y:k", 1);
        worth("y:d", 0);
        worth("y:g", 0);
        worth("y:2+3*4", 14);
        worth("y:[2+3]*4", 20);
        worth("y:20-3-4", 13);
        worth("y:20-[3-4]", 21);
        worth("y:50/3/2", 8);
        worth("y:50/[3/2]", 50);
        worth("y:7/2*2", 6);
        worth("y:3-8", 0);
        worth("y:[3-8]/2+9", 7);
        worth("y:[0-7]/[0-2]", 3);
        worth("y:5/0", 0);
        worth("y:9+5/0", 9);
        worth("y:[5/[t-7]]+1", 1);
        worth("y:1000*1000*1000/1000/100", 10);
        worth("y:[0-9999]*9999/9999+120", 20);
        worth("y:9999*9999-9999*9999", 0);
        worth("y:9999*9999+9999-9999*100-80", 20);
        worth("y:[0-9999]*9999-9999+9999*100+120", 20);
        worth("y:100", 60);
        worth("y:t=7?11", 11);
        worth("y:t=8?11", 0);
        worth("y:t=8?11;y:22", 22);
        worth("y:t=7?11;y:22", 11);
        worth("y:11;y:22", 11);
        worth("y:t<7?1;y:t>7?2;y:t<8?3;y:4", 3);
        worth("y:t>6?1;y:2", 1);
        worth("y:!t=7?1;y:2", 2);
        worth("y:!!t=7?1;y:2", 1);
        worth("y:!t=7|n=9?1;y:2", 1);
        worth("y:!(t=7|n=9)?1;y:2", 2);
        worth("y:t=7|n=0&m=0?1;y:2", 1);
        worth("y:(t=7|n=0)&m=0?1;y:2", 2);
        worth("y:t=7&n=9&m=2&k=1?1;y:2", 1);
        worth("y:t=7&n=9&m=3?1;y:2", 2);
        worth("y:t=1|n=1|m=1?1;y:2", 2);
        worth("y:t=1|n=1|m=2?1;y:2", 1);
        worth("y:t+n=16?1;y:2", 1);
        worth("y:t*2-m>11?1;y:2", 1);
        worth("y:t*2-m>12?1;y:2", 2);
        worth("y:t-9<0?5;y:2", 5);
        worth("y:t<8&n=9?1;y:2", 1);
        worth("y:n=9&t<8?1;y:2", 1);
        worth("y:t>6&n=9?1;y:2", 1);
        worth("y:n=9&t>6?1;y:2", 1);
        worth("y:!t<8?1;y:2", 2);
        worth("y:!t>6?1;y:2", 2);
        worth("y:t<7|n=8?1;y:2", 2);
        worth("y:t<8|n=8?1;y:2", 1);
        worth("y:!t<7?1;y:2", 1);
        worth("y:!t>7?1;y:2", 1);
    }

    private static void letters() {
        OneWindow x = Tester.fort("sw1l50g99b0;ct3m1;ct5m4;ct9m8;vn2;vn4");
        Tester.hold(x, "y:t");
        Tester.due("t down: the lower cell's wall", x.far(0, 0), 47);
        Tester.due("t up: its own wall", x.far(0, 2), 45);
        Tester.hold(x, "y:m");
        Tester.due("m of who sits where it comes to", x.far(0, 0), 49);
        Tester.due("m up", x.far(0, 2), 42);
        x.move(0, 2);
        Tester.due("m after a move", x.far(0, 0), 42);
        Tester.hold(x, "y:10*d+g");
        Tester.due("day 0, nothing learnt", x.far(0, 0), 50);
        x.see(0);
        x.see(1);
        Tester.due("two events", x.tell(), 4);
        Tester.due("learnt 6", x.far(0, 0), 44);
        x.days(2);
        Tester.due("day 2", x.far(0, 0), 24);
        OneWindow y = Tester.fort("sl3g99;c;c;vn2;vn4");
        Tester.hold(y, "y:g");
        y.see(0);
        y.see(1);
        Tester.due("g grows while it is told: 3-0, 3-2", y.tell(), 2);
        y.days(1);
        y.see(0);
        Tester.due("3-6", y.tell(), 0);
    }

    private static void guards() {
        OneWindow x = new OneWindow();
        Tester.due("0 at first", x.guards(0), false);
        Tester.due("9", x.guards(9), true);
        Tester.due("9 again", x.guards(9), false);
        Tester.due("10", x.guards(10), false);
        Tester.due("-1", x.guards(-1), false);
        Tester.due("count", x.count(12), 9);
        Tester.due("0 again", x.guards(0), true);
        Tester.due("count 0", x.count(12), 0);
    }

    private static void log() {
        OneWindow x = Tester.fort("sg99;c;c;vn1;v;v");
        for (int day = 0; day < 59; day++) {
            if (day % 2 == 1) {
                x.see(0);
                x.tell();
            }
            x.days(1);
        }
        x.see(1);
        x.see(2);
        Tester.due("59 of them", x.count(14), 59);
        x.days(1);
        Tester.due("not told", x.log(0, 1), 0);
        Tester.due("seen", x.log(0, 0), 6);
        Tester.due("learnt", x.log(0, 2), 29);
        Tester.due("the one ahead", x.log(1, 0), 0);
        Tester.due("heard", x.log(2, 1), 1);
        Tester.due("the first", x.log(59, 0), 0);
        Tester.due("no more", x.log(60, 0), -1);
        x.days(1);
        Tester.due("60 at most", x.count(14), 60);
        Tester.due("the second is the first now", x.log(59, 0), 1);
        Tester.due("its learnt", x.log(59, 2), 1);
        Tester.due("i -1", x.log(-1, 0), -1);
        Tester.due("what -1", x.log(0, -1), -1);
        Tester.due("what 3", x.log(0, 3), -1);
        x.undo();
        Tester.due("undone: the first again", x.log(59, 2), 0);
        Tester.due("undone: the latest", x.log(0, 0), 6);
    }
}
