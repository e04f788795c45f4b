/** All that can be asked of an object without changing it, and what it answers to calls that do change it. */
final class Portrait {
    private static final int MOST_CALLS = 512;
    private static final int[] LOGGED = {0, 1, 2, 3, 58, 59};
    private static final int[] STEPS = {0, 1, 15};
    private static final int[][] PAIRS = {{0, 1}, {1, 2}, {4, 3}};

    private final OneWindow x;
    private final StringBuilder answers = new StringBuilder();
    private int calls;

    private Portrait(OneWindow x, int callsAhead) {
        this.x = x;
        calls = callsAhead;
    }

    /** The ways of looking at an object; each changes it in another way, so each needs an object of its own. */
    static final int WAYS = 7;

    static String of(OneWindow x, int callsAhead, int way) {
        Portrait portrait = new Portrait(x, callsAhead);
        switch (way) {
            case 0: portrait.all(); break;
            case 1: portrait.undone(); break;
            case 2: portrait.broughtBack(); break;
            case 3: portrait.goneOn(); break;
            default: portrait.read(way - 4);
        }
        Tester.due("calls of one object are 512 at most", Math.max(portrait.calls, MOST_CALLS), MOST_CALLS);
        return portrait.answers.toString();
    }

    private void put(String call, long answer) {
        calls++;
        answers.append(call).append(" = ").append(answer).append('\n');
    }

    private void put(String call, boolean answer) {
        put(call, answer ? 1 : 0);
    }

    private void all() {
        told();
        stands();
        planned();
        knocked();
        seated();
        doubted();
    }

    private void undone() {
        int most = calls > 100 ? 25 : 41;
        for (int i = 0; i < most; i++) {
            put("undo", x.undo());
            for (int what = 6; what <= 11; what++) {
                put("count " + what, x.count(what));
            }
            put("log", x.log(0, 0));
        }
        stands();
    }

    private void broughtBack() {
        put("back", x.back());
        put("undo", x.undo());
        stands();
        knocked();
    }

    private void goneOn() {
        for (int event = 0; event < 6; event++) {
            put("see", x.see(event));
        }
        put("tell", x.tell());
        put("said", x.said(1, 0, true));
        put("move", x.move(0, 1));
        put("code", x.code());
        put("tell", x.tell());
        put("mirror", x.mirror(1, 1));
        for (int plan = 0; plan < 4; plan++) {
            put("perform", x.perform(plan));
        }
        put("days", x.days(1));
        put("years", x.years(5, 77L));
        put("guards", x.guards(8));
        put("years", x.years(5, 78L));
        stands();
        put("image", x.image());
    }

    private void read(int sort) {
        put("text", x.text(sort));
        told();
        stands();
        for (int law = -1; law < 4; law++) {
            put("law", x.law(law));
            put("far", x.far(0, 1));
        }
        planned();
    }

    private void told() {
        for (int what = -1; what <= 16; what++) {
            put("count " + what, x.count(what));
        }
        for (int what = 0; what < 4; what++) {
            put("rule " + what, x.rule(what));
        }
        for (int sort = 0; sort < 3; sort++) {
            put("fault " + sort, x.fault(sort));
        }
    }

    private void stands() {
        for (int i = 0; i < 7; i++) {
            for (int what = 0; what < 7; what++) {
                put("prisoner " + i + " " + what, Tester.prisoner(x, i, what));
            }
            put("thick " + i, x.cell(i, 0));
            put("sits " + i, x.cell(i, 1));
        }
        for (int event = 0; event < 6; event++) {
            for (int what = 0; what < 3; what++) {
                put("event " + event + " " + what, x.event(event, what));
            }
        }
        for (int i : LOGGED) {
            for (int what = 0; what < 3; what++) {
                put("log " + i + " " + what, x.log(i, what));
            }
        }
        put("acts", x.count(15));
        put("logged", x.count(14));
    }

    private void planned() {
        for (int plan = 0; plan < 4; plan++) {
            for (int i : STEPS) {
                for (int what = 0; what < 3; what++) {
                    put("step " + plan + " " + i + " " + what, x.step(plan, i, what));
                }
            }
            put("run " + plan, x.run(plan, 0));
            put("bread of run " + plan, x.run(plan, 1));
        }
    }

    private void knocked() {
        for (int event = 0; event < 6; event++) {
            put("far " + event, x.far(event, 0));
            put("far " + event, x.far(event, 3));
            put("wall " + event, x.wall(event, 0));
            put("wall " + event, x.wall(event, 1));
            put("listen " + event, x.listen(event));
            put("escape " + event, x.escape(1 << event, event));
        }
        for (int cell = 0; cell < 7; cell++) {
            put("trust " + cell, x.trust(cell));
        }
        put("wears", x.wears());
    }

    private void seated() {
        for (int i = 0; i < 7; i++) {
            put("seat " + i, x.seat(i));
        }
        put("best", x.best());
        put("merits", x.merits());
        put("quiet", x.quiet());
        put("rich", x.rich());
        put("most", x.most());
        for (int what = 0; what < 2; what++) {
            put("codes " + what, x.codes(what));
            put("swap " + what, x.swap(what));
            put("price " + what, x.price(what));
        }
        for (int[] pair : PAIRS) {
            put("buys", x.buys(pair[0], pair[1], 1, 0));
            put("buys", x.buys(pair[0], pair[1], 1, 1));
            put("rests", x.rests(pair[0], pair[1], -1));
            put("rests", x.rests(pair[0], pair[1], 0));
        }
    }

    private void doubted() {
        put("least", x.least());
        put("liars", x.liars());
        for (int v = 0; v <= 7; v++) {
            put("truths " + v, x.truths(v, -1));
            put("sure " + v, x.sure(v, 0));
            put("never " + v, x.sure(v, 1));
            put("ask " + v, x.ask(v));
        }
        for (int event = 0; event < 6; event++) {
            put("belief " + event, x.belief(event));
        }
    }
}
