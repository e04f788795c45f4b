import java.util.Random;

/** Holds the class against the plain model, by runs of drawn calls with drawn texts, right ones and wrong ones. */
public final class ModelTest {
    private static final int RUNS = 2400;
    /** The document's 512 less the longest turn and what is asked at the end. */
    private static final int CALLS = 512 - 20 - 16 - 60;

    private final Random draws;
    private final OneWindow x = new OneWindow();
    private final Model model = new Model();
    private int calls;

    private ModelTest(long seed) {
        draws = new Random(seed);
    }

    public static void main(String[] args) {
        for (long seed = 1; seed <= RUNS; seed++) {
            new ModelTest(seed).runAll(seed);
        }
        faults();
        Tester.end();
    }

    private int upTo(int most) {
        return draws.nextInt(most + 1);
    }

    /** Mostly within 0 .. most, now and then beyond, seldom far off. */
    private int around(int most) {
        int turn = upTo(40);
        return turn == 0 ? draws.nextInt() : turn < 4 ? upTo(most + 3) - 2 : upTo(most);
    }

    private void runAll(long seed) {
        if (seed % 3 != 0) {
            put(Texts.fort(draws));
            same("text", x.text(0), model.text(0));
        }
        while (calls < CALLS) {
            oneCall();
        }
        for (int what = 0; what <= 15; what++) {
            same("count " + what, x.count(what), model.count(what));
        }
        for (int i = 0; i < 60; i++) {
            same("log " + i, x.log(i, i % 3), model.log(i, i % 3));
        }
    }

    private void same(String call, long got, long want) {
        calls++;
        Tester.due(call, got, want);
    }

    private void same(String call, boolean got, boolean want) {
        calls++;
        Tester.due(call, got, want);
    }

    private void put(String text) {
        Tester.put(x, text);
        calls += 1 + (text.length() + 19) / 20;
        model.end(0);
        for (int i = 0; i < text.length(); i++) {
            model.feed(text.charAt(i), 0, 0, 0, 0);
        }
    }

    private void oneCall() {
        int turn = upTo(99);
        if (turn < 6) {
            texts();
        } else if (turn < 40) {
            acts();
        } else if (turn < 70) {
            looks();
        } else {
            thoughts();
        }
    }

    private void texts() {
        int kind = upTo(9);
        int sort = kind == 0 ? 0 : kind < 4 ? 1 : 2;
        if (kind == 9) {
            int[] n = draws.ints(5).toArray();
            same("feed", x.feed(n[0], n[1] & 255, n[2], n[3], n[4]), model.feed(n[0], n[1] & 255, n[2], n[3], n[4]));
            int length = around(240);
            same("end", x.end(length), model.end(length));
            return;
        }
        String text = sort == 0 ? Texts.fort(draws) : sort == 1 ? Texts.law(draws) : Texts.plan(draws);
        put(upTo(3) == 0 ? Texts.spoiled(draws, text) : text);
        int asked = around(2);
        same("fault of " + text, x.fault(asked), model.fault(asked));
        same("text of " + text, x.text(sort), model.text(sort));
        int law = around(3);
        same("law", x.law(law), model.law(law));
    }

    private void acts() {
        int a = around(6);
        int b = around(6);
        switch (upTo(14)) {
            case 0: case 1: case 2: same("see", x.see(a), model.see(a)); break;
            case 3: case 4: same("tell", x.tell(), model.tell()); break;
            case 5: same("move", x.move(a, b), model.move(a, b)); break;
            case 6: {
                int set = around(63);
                same("mirror", x.mirror(a, set), model.mirror(a, set));
                break;
            }
            case 7: same("code", x.code(), model.code()); break;
            case 8: {
                int n = upTo(3) == 0 ? around(60) : 1;
                same("days", x.days(n), model.days(n));
                break;
            }
            case 9: {
                int n = upTo(3) == 0 ? around(60) : around(4);
                long seed = draws.nextLong();
                same("years", x.years(n, seed), model.years(n, seed));
                break;
            }
            case 10: same("undo", x.undo(), model.undo()); break;
            case 11: same("perform", x.perform(a % 4), model.perform(a % 4)); break;
            case 12: same("guards", x.guards(b), model.guards(b)); break;
            case 13: {
                boolean was = draws.nextBoolean();
                same("said", x.said(a, b, was), model.said(a, b, was));
                break;
            }
            default:
                if (upTo(2) > 0) {
                    same("image", x.image(), model.image());
                } else {
                    same("back", x.back(), model.back());
                }
        }
    }

    private void looks() {
        int a = around(6);
        int b = around(6);
        switch (upTo(13)) {
            case 0: same("rule", x.rule(b), model.rule(b)); break;
            case 1: case 2: case 3:
                same("prisoner " + a + " " + b, Tester.prisoner(x, a, b), model.prisoner(a, b));
                break;
            case 4: same("cell", x.cell(a, b & 1), model.cell(a, b & 1)); break;
            case 5: same("event", x.event(a, b), model.event(a, b)); break;
            case 6: {
                int i = around(60);
                same("log", x.log(i, b % 3), model.log(i, b % 3));
                break;
            }
            case 7: {
                int i = around(16);
                same("step", x.step(a % 4, i, b % 3), model.step(a % 4, i, b % 3));
                break;
            }
            case 8: case 9: same("run", x.run(a % 4, b & 1), model.run(a % 4, b & 1)); break;
            case 10: same("far", x.far(a, b), model.far(a, b)); break;
            case 11: same("wall", x.wall(a, b & 1), model.wall(a, b & 1)); break;
            case 12: same("listen", x.listen(a), model.listen(a)); break;
            default: {
                int what = around(15);
                same("count " + what, x.count(what), model.count(what));
            }
        }
    }

    private void thoughts() {
        int a = around(6);
        int b = around(6);
        int what = around(1);
        switch (upTo(22)) {
            case 0: same("seat", x.seat(a), model.seat(a)); break;
            case 1: same("best", x.best(), model.best()); break;
            case 2: same("codes", x.codes(what), model.codes(what)); break;
            case 3: same("least", x.least(), model.least()); break;
            case 4: case 5: {
                int i = around(20) - 1;
                same("truths", x.truths(a, i), model.truths(a, i));
                break;
            }
            case 6: same("sure", x.sure(a, what), model.sure(a, what)); break;
            case 7: same("ask", x.ask(a), model.ask(a)); break;
            case 8: same("liars", x.liars(), model.liars()); break;
            case 9: case 10: same("belief", x.belief(a), model.belief(a)); break;
            case 11: same("trust", x.trust(a), model.trust(a)); break;
            case 12: {
                int set = around(127);
                set = upTo(1) == 0 ? set & draws.nextInt() & draws.nextInt() : set;
                same("escape", x.escape(set, b), model.escape(set, b));
                break;
            }
            case 13: same("wears", x.wears(), model.wears()); break;
            case 14: same("merits", x.merits(), model.merits()); break;
            case 15: same("swap", x.swap(what), model.swap(what)); break;
            case 16: same("quiet", x.quiet(), model.quiet()); break;
            case 17: same("rich", x.rich(), model.rich()); break;
            case 18: same("most", x.most(), model.most()); break;
            case 19: same("price", x.price(what), model.price(what)); break;
            case 20: {
                int y = around(1);
                same("buys", x.buys(a, b, what, y), model.buys(a, b, what, y));
                break;
            }
            default: {
                int i = around(4) - 1;
                same("rests", x.rests(a, b, i), model.rests(a, b, i));
            }
        }
    }

    /** Texts with a sign changed, left out or put in, as each of the sorts. */
    private static void faults() {
        Random draws = new Random(99);
        for (int i = 0; i < 60000; i++) {
            String right = i % 3 == 0 ? Texts.fort(draws) : i % 3 == 1 ? Texts.law(draws) : Texts.plan(draws);
            String text = i % 7 == 0 ? right : Texts.spoiled(draws, right);
            OneWindow x = new OneWindow();
            Model model = new Model();
            Tester.put(x, text);
            for (int at = 0; at < text.length(); at++) {
                model.feed(0, 0, text.charAt(at), 0, 0);
            }
            Tester.due("count of " + text, x.count(4), model.count(4));
            for (int sort = 0; sort < 3; sort++) {
                Tester.due("fault " + sort + " of " + text, x.fault(sort), model.fault(sort));
            }
            if (i % 7 == 0) {
                Tester.due("no fault of " + right, x.fault(i % 3), right.length() > 240 ? x.fault(i % 3) : -1);
            }
        }
    }
}
