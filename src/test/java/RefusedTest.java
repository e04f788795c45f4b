import java.util.ArrayList;
import java.util.List;
import java.util.function.Supplier;
import java.util.function.ToLongFunction;

/** "What is refused answers as told and changes nothing": the answers of later calls are as if it had not been made. */
public final class RefusedTest {
    private static final int LEAST = Integer.MIN_VALUE;
    private static final int MOST = Integer.MAX_VALUE;

    private final String state;
    private final int callsAhead;
    private final Supplier<OneWindow> maker;
    private final List<String> portraits = new ArrayList<>();

    private RefusedTest(String state, int callsAhead, Supplier<OneWindow> maker) {
        this.state = state;
        this.callsAhead = callsAhead;
        this.maker = maker;
        for (int way = 0; way < Portrait.WAYS; way++) {
            portraits.add(Portrait.of(maker.get(), callsAhead, way));
        }
    }

    public static void main(String[] args) {
        withoutFort(new RefusedTest("new", 0, OneWindow::new));
        withoutFort(new RefusedTest("no fort", 20, RefusedTest::noFort));
        rich(new RefusedTest("rich", 60, RefusedTest::richOne));
        full(new RefusedTest("full", 115, RefusedTest::fullOne));
        fullOfPlans(new RefusedTest("full of plans", 110, RefusedTest::fullOfPlansOne));
        poor(new RefusedTest("poor", 20, RefusedTest::poorOne));
        lastDay(new RefusedTest("last day", 180, () -> late(39)));
        dayAhead(new RefusedTest("the day ahead of it", 180, () -> late(38)));
        sixtyAhead(new RefusedTest("59 days ahead of it", 180, RefusedTest::fiftyNineLeft));
        Tester.end();
    }

    /** Makes a refused call on an object, and looks at it in each way. */
    private void refused(String name, ToLongFunction<OneWindow> call, long want) {
        for (int way = 0; way < Portrait.WAYS; way++) {
            OneWindow x = maker.get();
            Tester.due(state + ", " + name, call.applyAsLong(x), want);
            String got = Portrait.of(x, callsAhead + 1, way);
            boolean same = got.equals(portraits.get(way));
            Tester.due(state + ", behind " + name + " (" + way + "): " + difference(got, portraits.get(way)), same, true);
        }
    }

    private static String difference(String got, String want) {
        String[] gotLines = got.split("\n");
        String[] wantLines = want.split("\n");
        for (int i = 0; i < Math.min(gotLines.length, wantLines.length); i++) {
            if (!gotLines[i].equals(wantLines[i])) {
                return gotLines[i] + " for " + wantLines[i];
            }
        }
        return "alike";
    }

    private void refusedFalse(String name, ToLongFunction<OneWindow> call) {
        refused(name, call, 0);
    }

    private void none(String name, ToLongFunction<OneWindow> call) {
        refused(name, call, Tester.NONE);
    }

    private void hidden(String name, ToLongFunction<OneWindow> call) {
        refused(name, call, Tester.HIDDEN);
    }

    private static long bit(boolean answer) {
        return answer ? 1 : 0;
    }

    // ---- states

    private static OneWindow noFort() {
        OneWindow x = new OneWindow();
        Tester.text(x, Tester.LAW, "y:1");
        Tester.text(x, Tester.LAW, "y:t*2");
        Tester.text(x, Tester.PLAN, "s1;m01;t;c;e");
        x.law(1);
        x.guards(3);
        Tester.put(x, "c;v");
        return x;
    }

    private static OneWindow richOne() {
        OneWindow x = Tester.fort("sw2l20g10b2;ct3m4b1;ct5m9x0b7;ct2m2x1;ct8m9h2b0;ct1m0h10b9;vn4p3;vn7p10;vn1p0");
        Tester.text(x, Tester.LAW, "y:m>8?6;y:t");
        Tester.text(x, Tester.LAW, "y:9+g");
        Tester.text(x, Tester.PLAN, "s1;m01;t;c;e;t");
        Tester.text(x, Tester.PLAN, "e;s2;t");
        x.law(0);
        x.guards(4);
        x.see(2);
        x.tell();
        x.days(2);
        x.mirror(3, 6);
        x.move(0, 4);
        x.see(0);
        x.said(1, 0, true);
        x.said(3, 0, false);
        x.said(3, 1, true);
        x.image();
        x.years(2, 5L);
        x.see(0);
        x.tell();
        Tester.put(x, "sw1;c;c;vn2");
        return x;
    }

    private static OneWindow fullOne() {
        OneWindow x = Tester.fort("sw6l60g99b9;ct1m1b99;ct2m2b98;ct3m3b97;ct4m4b96;ct5m5b95;ct6m6b94;ct7m7b93;"
                + "vn1p1;vn2p2;vn3p3;vn4p4;vn5p5;vn6p6");
        for (int i = 0; i < 4; i++) {
            Tester.text(x, Tester.LAW, "y:t+" + i);
            Tester.text(x, Tester.PLAN, i == 2 ? Tester.times("m01;", 15) + "m23" : "s" + i + ";t;e");
        }
        x.law(3);
        x.guards(9);
        for (int i = 0; i < 16; i++) {
            x.said(i % 7, i % 6, i % 5 < 2);
        }
        x.years(60, 9L);
        x.years(30, 8L);
        for (int event = 0; event < 6; event++) {
            x.see(event);
        }
        Tester.put(x, "y:1" + Tester.times(" ", 237));
        return x;
    }

    private static OneWindow fullOfPlansOne() {
        OneWindow x = fullOne();
        Tester.put(x, "t" + Tester.times(";s1", 15));
        return x;
    }

    private static OneWindow poorOne() {
        OneWindow x = Tester.fort("sg1b0;cb1;cb1;c b0;vn1;v");
        x.see(0);
        x.tell();
        x.days(1);
        x.see(1);
        return x;
    }

    private static OneWindow late(int more) {
        OneWindow x = Tester.fort("sw1g99;c;c;c;vn1p5;vn1p7");
        for (int i = 0; i < 166; i++) {
            x.days(60);
        }
        x.see(0);
        x.tell();
        x.days(more);
        x.see(1);
        Tester.text(x, Tester.PLAN, "e");
        return x;
    }

    private static OneWindow fiftyNineLeft() {
        OneWindow x = Tester.fort("sw1g99;c;c;c;vn1p5;vn1p7");
        for (int i = 0; i < 165; i++) {
            x.days(60);
        }
        x.days(40);
        x.see(1);
        return x;
    }

    // ---- what each state refuses

    private static void withoutFort(RefusedTest t) {
        t.none("text 0", x -> x.text(0));
        t.none("rule", x -> x.rule(0));
        t.refused("prisoner", x -> Tester.prisoner(x, 0, 0), Tester.THROWS);
        t.none("cell", x -> x.cell(0, 0));
        t.none("event", x -> x.event(0, 0));
        t.none("see", x -> x.see(0));
        t.none("tell", x -> x.tell());
        t.none("move", x -> x.move(0, 1));
        t.refusedFalse("mirror 0", x -> bit(x.mirror(0, 0)));
        t.refusedFalse("mirror 1", x -> bit(x.mirror(0, 1)));
        t.none("code", x -> x.code());
        t.none("days", x -> x.days(1));
        t.none("years", x -> x.years(1, 1L));
        t.none("undo", x -> x.undo());
        t.none("log", x -> x.log(0, 0));
        t.hidden("run", x -> x.run(0, 0));
        t.hidden("bread of run", x -> x.run(0, 1));
        t.none("perform", x -> x.perform(0));
        t.none("far", x -> x.far(0, 0));
        t.none("wall", x -> x.wall(0, 0));
        t.none("seat", x -> x.seat(0));
        t.none("best", x -> x.best());
        t.none("codes", x -> x.codes(0));
        t.none("said", x -> x.said(0, 0, true));
        t.none("least", x -> x.least());
        t.none("truths", x -> x.truths(0, -1));
        t.none("sure", x -> x.sure(7, 0));
        t.none("ask", x -> x.ask(7));
        t.none("liars", x -> x.liars());
        t.none("belief", x -> x.belief(0));
        t.none("trust", x -> x.trust(0));
        t.none("escape", x -> x.escape(0, 0));
        t.none("wears", x -> x.wears());
        t.none("listen", x -> x.listen(0));
        t.none("merits", x -> x.merits());
        t.none("swap", x -> x.swap(0));
        t.none("quiet", x -> x.quiet());
        t.none("rich", x -> x.rich());
        t.none("most", x -> x.most());
        t.none("price", x -> x.price(0));
        t.hidden("buys", x -> x.buys(0, 1, 0, 0));
        t.none("rests", x -> x.rests(0, 1, -1));
        t.none("image", x -> x.image());
        t.none("back", x -> x.back());
    }

    private static void rich(RefusedTest t) {
        richTexts(t);
        richActs(t);
        richLooks(t);
        richThoughts(t);
    }

    private static void richTexts(RefusedTest t) {
        for (int n : new int[] {-1, 12, LEAST, MOST}) {
            t.refusedFalse("end " + n, x -> bit(x.end(n)));
        }
        for (int sort : new int[] {-1, 3, LEAST, MOST}) {
            t.refused("fault " + sort, x -> x.fault(sort), -2);
            t.none("text " + sort, x -> x.text(sort));
        }
        t.none("a fort as a law", x -> x.text(1));
        t.none("a fort as a plan", x -> x.text(2));
        for (int law : new int[] {-2, 2, 3, LEAST, MOST}) {
            t.refusedFalse("law " + law, x -> bit(x.law(law)));
        }
        for (int v : new int[] {-1, 10, 4, LEAST, MOST}) {
            t.refusedFalse("guards " + v, x -> bit(x.guards(v)));
        }
    }

    private static void richActs(RefusedTest t) {
        for (int event : new int[] {0, -1, 3, 31, 32, 33, LEAST, MOST}) {
            t.none("see " + event, x -> x.see(event));
        }
        t.none("told today", x -> x.tell());
        for (int one : new int[] {-1, 5, LEAST, MOST}) {
            t.none("move " + one + " and 0", x -> x.move(one, 0));
            t.none("move 0 and " + one, x -> x.move(0, one));
            t.none("move alike " + one, x -> x.move(one, one));
            t.refusedFalse("mirror of " + one, x -> bit(x.mirror(one, 1)));
        }
        t.none("move alike", x -> x.move(2, 2));
        for (int events : new int[] {6, 8, 15, -1, LEAST, MOST}) {
            t.refusedFalse("mirror that shows " + events, x -> bit(x.mirror(3, events)));
        }
        for (int n : new int[] {0, 61, -1, LEAST, MOST}) {
            t.none("days " + n, x -> x.days(n));
            t.none("years " + n, x -> x.years(n, 3L));
        }
        for (int plan : new int[] {-1, 2, 4, LEAST, MOST}) {
            t.none("perform " + plan, x -> x.perform(plan));
        }
        for (int one : new int[] {-1, 5, LEAST, MOST}) {
            t.none("said by " + one, x -> x.said(one, 0, true));
        }
        for (int event : new int[] {-1, 3, 32, LEAST, MOST}) {
            t.none("said of " + event, x -> x.said(0, event, false));
        }
    }

    private static void richLooks(RefusedTest t) {
        for (int what : new int[] {-1, 4, LEAST, MOST}) {
            t.none("rule " + what, x -> x.rule(what));
        }
        for (int what : new int[] {-1, 7, LEAST, MOST}) {
            t.refused("prisoner 0 " + what, x -> Tester.prisoner(x, 0, what), Tester.THROWS);
        }
        for (int one : new int[] {-1, 5, LEAST, MOST}) {
            t.refused("prisoner " + one, x -> Tester.prisoner(x, one, 0), Tester.THROWS);
            t.none("cell " + one, x -> x.cell(one, 1));
            t.none("seat " + one, x -> x.seat(one));
            t.none("trust " + one, x -> x.trust(one));
            t.none("far in " + one, x -> x.far(0, one));
        }
        for (int what : new int[] {-1, 2, LEAST, MOST}) {
            t.none("cell 0 " + what, x -> x.cell(0, what));
            t.none("wall " + what, x -> x.wall(0, what));
            t.hidden("run " + what, x -> x.run(0, what));
        }
        for (int what : new int[] {-1, 3, LEAST, MOST}) {
            t.none("event 0 " + what, x -> x.event(0, what));
            t.none("log 0 " + what, x -> x.log(0, what));
            t.hidden("step 0 0 " + what, x -> x.step(0, 0, what));
        }
        for (int event : new int[] {-1, 3, LEAST, MOST}) {
            t.none("event " + event, x -> x.event(event, 0));
            t.none("far of " + event, x -> x.far(event, 0));
            t.none("wall of " + event, x -> x.wall(event, 0));
            t.none("listen " + event, x -> x.listen(event));
            t.none("belief " + event, x -> x.belief(event));
            t.none("escape " + event, x -> x.escape(1, event));
        }
        for (int i : new int[] {-1, 4, 60, LEAST, MOST}) {
            t.none("log " + i, x -> x.log(i, 0));
        }
        for (int plan : new int[] {-1, 2, 4, LEAST, MOST}) {
            t.hidden("step of " + plan, x -> x.step(plan, 0, 0));
            t.hidden("run of " + plan, x -> x.run(plan, 0));
        }
        for (int i : new int[] {-1, 3, 16, LEAST, MOST}) {
            t.hidden("step 1 " + i, x -> x.step(1, i, 0));
        }
        for (int what : new int[] {-1, 16, LEAST, MOST}) {
            t.hidden("count " + what, x -> x.count(what));
        }
    }

    private static void richThoughts(RefusedTest t) {
        for (int what : new int[] {-1, 2, LEAST, MOST}) {
            t.none("codes " + what, x -> x.codes(what));
            t.none("sure 7 " + what, x -> x.sure(7, what));
            t.none("swap " + what, x -> x.swap(what));
            t.none("price " + what, x -> x.price(what));
            t.hidden("buys x " + what, x -> x.buys(0, 1, what, 0));
            t.hidden("buys y " + what, x -> x.buys(0, 1, 0, what));
        }
        for (int v : new int[] {-1, 8, LEAST, MOST}) {
            t.none("truths " + v, x -> x.truths(v, -1));
            t.none("sure " + v, x -> x.sure(v, 0));
            t.none("ask " + v, x -> x.ask(v));
        }
        for (int i : new int[] {-2, 8, LEAST, MOST}) {
            t.none("truths 7 " + i, x -> x.truths(7, i));
        }
        for (int set : new int[] {-1, 32, LEAST, MOST}) {
            t.none("escape of " + set, x -> x.escape(set, 0));
        }
        for (int one : new int[] {-1, 5, LEAST, MOST}) {
            t.hidden("buys " + one + " 0", x -> x.buys(one, 0, 1, 1));
            t.hidden("buys 0 " + one, x -> x.buys(0, one, 1, 1));
            t.none("rests " + one + " 0", x -> x.rests(one, 0, -1));
            t.none("rests 0 " + one, x -> x.rests(0, one, -1));
        }
        t.hidden("buys alike", x -> x.buys(1, 1, 1, 1));
        t.none("rests alike", x -> x.rests(1, 1, -1));
        t.hidden("the teller buys", x -> x.buys(x.count(7), 0, 1, 1));
        t.hidden("the teller buys, too", x -> x.buys(0, x.count(7), 1, 1));
        t.none("the teller rests", x -> x.rests(x.count(7), 0, -1));
        t.none("the teller rests, too", x -> x.rests(0, x.count(7), -1));
        for (int i : new int[] {-2, 4, LEAST, MOST}) {
            t.none("rests 0 1 " + i, x -> x.rests(0, 1, i));
        }
    }

    private static void full(RefusedTest t) {
        t.none("a 241st byte, the first", x -> x.feed(1 << 24, 0, 0, 0, 0));
        t.none("a 241st byte, the last", x -> x.feed(0, 0, 0, 0, 1));
        t.none("twenty more", x -> x.feed(-1, -1, -1, -1, -1));
        t.refusedFalse("end 241", x -> bit(x.end(241)));
        t.none("a fifth law", x -> x.text(1));
        t.none("no plan", x -> x.text(2));
        t.none("no fort", x -> x.text(0));
        t.refusedFalse("law 4", x -> bit(x.law(4)));
        t.refusedFalse("guards 9", x -> bit(x.guards(9)));
        t.none("a 17th", x -> x.said(6, 5, true));
        t.none("see 6", x -> x.see(6));
        t.none("see 5", x -> x.see(5));
        t.none("move 6 and 7", x -> x.move(6, 7));
        t.refusedFalse("a seventh event", x -> bit(x.mirror(6, 64)));
        t.refusedFalse("an eighth prisoner", x -> bit(x.mirror(7, 1)));
        t.none("log 60", x -> x.log(60, 0));
        t.none("truths 7 64", x -> x.truths(7, 64));
        t.none("an eighth in a set", x -> x.escape(128, 0));
        t.none("no image", x -> x.back());
        t.hidden("a 17th step", x -> x.step(2, 16, 0));
        t.hidden("plan 4", x -> x.step(4, 0, 0));
        t.hidden("run 4", x -> x.run(4, 0));
        t.none("perform 4", x -> x.perform(4));
    }

    private static void fullOfPlans(RefusedTest t) {
        t.none("a fifth plan", x -> x.text(2));
    }

    private static void poor(RefusedTest t) {
        t.none("a worn code", x -> x.tell());
        t.none("nobody has 2 bread", x -> x.code());
    }

    private static void lastDay(RefusedTest t) {
        t.none("days 1", x -> x.days(1));
        t.none("days 60", x -> x.days(60));
        t.none("years 1", x -> x.years(1, 4L));
        t.none("years 60", x -> x.years(60, 4L));
        t.refused("perform e", x -> x.perform(0), 0);
    }

    private static void dayAhead(RefusedTest t) {
        t.none("days 2", x -> x.days(2));
        t.none("years 2", x -> x.years(2, 4L));
    }

    private static void sixtyAhead(RefusedTest t) {
        t.none("days 60", x -> x.days(60));
        t.none("years 60", x -> x.years(60, 4L));
    }
}
