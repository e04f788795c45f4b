/** Promises 21 to 23: step, run, perform. */
public final class PlanTest {
    public static void main(String[] args) {
        steps();
        runs();
        cantBe();
        performs();
        Tester.end();
    }

    private static void steps() {
        OneWindow x = new OneWindow();
        Tester.text(x, Tester.PLAN, "s3;m 4 5;t;c;e");
        Tester.text(x, Tester.PLAN, "e");
        int[][] want = {{0, 3, -1}, {1, 4, 5}, {2, -1, -1}, {3, -1, -1}, {4, -1, -1}};
        for (int i = -1; i <= 5; i++) {
            for (int what = -1; what <= 3; what++) {
                boolean is = i >= 0 && i < 5 && what >= 0 && what < 3;
                Tester.due("step " + i + " " + what, x.step(0, i, what), is ? want[i][what] : Tester.HIDDEN);
            }
        }
        Tester.due("plan 1", x.step(1, 0, 0), 4);
        Tester.due("its second step", x.step(1, 1, 0), Tester.HIDDEN);
        Tester.due("plan 2", x.step(2, 0, 0), Tester.HIDDEN);
        Tester.due("plan -1", x.step(-1, 0, 0), Tester.HIDDEN);
        Tester.put(x, "t;t;t");
        Tester.due("no fault", x.fault(2), -1);
        Tester.due("a text that is looked at alone is no plan", x.step(2, 0, 0), Tester.HIDDEN);
        Tester.due("no fort: run", x.run(0, 0), Tester.HIDDEN);
        Tester.due("no fort: perform", x.perform(0), -1);
    }

    private static void runs() {
        OneWindow x = Tester.fort("sg9b2;cb6;cb5;cb4;vn2;vn3");
        Tester.text(x, Tester.PLAN, "s0;t;m01;s1;e;s1;t;c");
        Tester.due("all can be", x.run(0, 0), -1);
        // event 0: 2 from each to prisoner 0 (10, 3, 2); event 1 on the next day: 2 from each to prisoner 1 (8, 7, 0)
        // and the code from prisoner 0 (6): the teller is prisoner 1
        Tester.due("bread of the teller then", x.run(0, 1), 7);
        Tester.due("run -1", x.run(0, -1), Tester.HIDDEN);
        Tester.due("run 2", x.run(0, 2), Tester.HIDDEN);
        Tester.due("plan 1", x.run(1, 0), Tester.HIDDEN);
        Tester.due("apart: day", x.count(6), 0);
        Tester.due("apart: bread", Tester.prisoner(x, 0, 4), 6);
        Tester.due("apart: acts", x.count(15), 0);
        Tester.due("apart: seen", x.count(8), 0);
        Tester.due("apart: teller", x.count(7), 0);
        OneWindow y = Tester.fort("sw1b2;cb6;cb5;cb4;v;v");
        Tester.text(y, Tester.PLAN, "s0;m12;t");
        Tester.due("prisoner 2 at the window in cell 1", y.run(0, 1), 8);
        x.see(0);
        Tester.due("seen already", x.run(0, 0), 0);
        Tester.due("bread now", x.run(0, 1), 6);
    }

    private static void cantBe() {
        String[] plans = {"s0;s0", "t;t", "m12;m11", "t;s2", "e;m13", "m31", "c;c;c;t", "s0;s1;t;e;t"};
        int[] want = {1, 1, 1, 1, 1, 0, 2, 4};
        for (int i = 0; i < plans.length; i++) {
            OneWindow x = Tester.fort("sg5b0;cb2;cb3;cb0;vn2;vn3");
            Tester.text(x, Tester.PLAN, plans[i]);
            Tester.due("first that can't be of " + plans[i], x.run(0, 0), want[i]);
            Tester.due("done of " + plans[i], x.perform(0), want[i]);
            Tester.due("acts of " + plans[i], x.count(15), want[i]);
        }
    }

    private static void performs() {
        OneWindow x = Tester.fort("sg9b2;cb6;cb5;cb4;vn2;vn3");
        Tester.text(x, Tester.PLAN, "s0;t;m01;s1;e;s1;t;c;s1;e");
        Tester.due("up to there", x.perform(0), 8);
        Tester.due("day", x.count(6), 1);
        Tester.due("log seen", x.log(0, 0), 3);
        Tester.due("log heard", x.log(0, 1), 2);
        Tester.due("teller", x.count(7), 1);
        Tester.due("bread", Tester.prisoner(x, 0, 4), 6);
        Tester.due("acts", x.count(15), 8);
        Tester.due("undone one by one", x.undo(), 7);
        Tester.due("learnt again", x.count(10), 5);
        Tester.due("told today, so one step", x.perform(0), 1);
        Tester.due("plan 1", x.perform(1), -1);
        Tester.due("plan -1", x.perform(-1), -1);
        OneWindow y = Tester.fort("c;c;v");
        Tester.text(y, Tester.PLAN, Tester.times("m01;", 15) + "m01");
        Tester.due("sixteen", y.perform(0), 16);
        Tester.due("sixteen again", y.perform(0), 16);
        Tester.due("sixteen once more", y.perform(0), 16);
        Tester.due("40 acts", y.count(15), 40);
        Tester.due("as at first", y.count(7), 0);
    }
}
