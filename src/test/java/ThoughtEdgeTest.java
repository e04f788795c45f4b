/** The bounds of plans and of what is worked out, sentence by sentence. The document's words stand over each test. */
public final class ThoughtEdgeTest {
    public static void main(String[] args) {
        firstThatCantBe();
        stepsThatCantBe();
        farNotBelowNothing();
        wallOnASide();
        asIfToldNow();
        seatsWithWornCode();
        ofSeveralTheLowest();
        swapsOfSeveral();
        pricesOfSeveral();
        roomOf32();
        said16();
        liars7();
        truthsToTheLast();
        noTruth();
        beliefsAtTheirBounds();
        trustBetween();
        escapeSets();
        wears99();
        meritsOfSeven();
        buysAndRests();
        thinkingChangesNothing();
        Tester.end();
    }

    /** "RUN of a PLAN (apart): behind how many STEPS the first is that can't be", "(0; NONE: all can be)". */
    private static void firstThatCantBe() {
        for (int at = 0; at <= 16; at++) {
            StringBuilder text = new StringBuilder();
            for (int i = 0; i < 16; i++) {
                text.append(i > 0 ? ";" : "").append(i == at ? "m11" : "m01");
            }
            OneWindow x = Tester.fort("cb3;cb8;v");
            Tester.text(x, Tester.PLAN, text.toString());
            int done = Math.min(at, 16);
            Tester.due("the first is " + at, x.run(0, 0), at == 16 ? Tester.NONE : at);
            Tester.due("bread of the teller then", x.run(0, 1), done % 2 == 0 ? 3 : 8);
            Tester.due("apart", x.count(15), 0);
            Tester.due("done", x.perform(0), done);
            Tester.due("acts", x.count(15), done);
            Tester.due("the teller", x.count(7), done % 2);
        }
    }

    private static void cantBe(String fort, String plan, int want) {
        OneWindow x = Tester.fort(fort);
        Tester.text(x, Tester.PLAN, plan);
        Tester.due("run of " + plan, x.run(0, 0), want);
        int steps = plan.split(";").length;
        Tester.due("done of " + plan, x.perform(0), want == Tester.NONE ? steps : want);
    }

    /** "(SEEN twice, TOLD twice or with a WORN CODE, a PRISONER with itself)", "the STEP can't be". */
    private static void stepsThatCantBe() {
        String fort = "sg6b0;cb2;cb1;cb0;vn3;vn3";
        cantBe(fort, "s0;s1", Tester.NONE);
        cantBe(fort, "s0;s0", 1);
        cantBe(fort, "s0;e;s0", Tester.NONE);
        cantBe(fort, "s1;s2", 1);
        cantBe(fort, "t;t", 1);
        cantBe(fort, "t;e;t", Tester.NONE);
        cantBe(fort, "s0;t;e;t;e;t", Tester.NONE);
        cantBe(fort, "s0;s1;t;e;t", 4);
        cantBe(fort, "s0;s1;t;c;e;t", Tester.NONE);
        cantBe(fort, "c;c", 1);
        cantBe(fort, "m00", 0);
        cantBe(fort, "m20;m02", Tester.NONE);
        cantBe(fort, "m23", 0);
        cantBe(fort, "m32", 0);
        cantBe(fort, "e;e;e;m99", 3);
    }

    /** "FAR: STRENGTH of an EVENT in a CELL, if it was TOLD now (from the WINDOW; not below 0)." */
    private static void farNotBelowNothing() {
        OneWindow x = Tester.fort("sw1l7;ct8;ct6;ct1;ct1;v");
        int[] want = {0, 7, 1, 0};
        for (int cell = -1; cell <= 4; cell++) {
            boolean is = cell >= 0 && cell < 4;
            Tester.due("far " + cell, x.far(0, cell), is ? want[cell] : Tester.NONE);
        }
        Tester.due("event 1", x.far(1, 1), Tester.NONE);
        Tester.due("event -1", x.far(-1, 1), Tester.NONE);
    }

    /** "WALL .. the CELL ahead of the wall behind which it is heard no more. NONE: it is heard in all CELLS on that side". */
    private static void wallOnASide() {
        for (int window = 0; window < 7; window++) {
            OneWindow x = Tester.fort("sw" + window + "l9" + Tester.times(";ct4", 7) + ";v");
            // 9, 5, 1, nothing: two cells on each side
            int below = window - 2;
            int above = window + 2;
            Tester.due("below " + window, x.wall(0, 0), below <= 0 ? Tester.NONE : below);
            Tester.due("above " + window, x.wall(0, 1), above >= 6 ? Tester.NONE : above);
            Tester.due("side 2", x.wall(0, 2), Tester.NONE);
            Tester.due("side -1", x.wall(0, -1), Tester.NONE);
        }
    }

    /** "if it was TOLD now": told today, worn or left out, it is as if it could be. */
    private static void asIfToldNow() {
        OneWindow x = Tester.fort("sg1b0l9;cx0;c;c;vn1;vn1");
        x.see(0);
        x.see(1);
        for (int turn = 0; turn < 2; turn++) {
            Tester.due("far", x.far(0, 2), 1);
            Tester.due("wall", x.wall(0, 1), Tester.NONE);
            Tester.due("listen", x.listen(0), 6);
            Tester.due("escape", x.escape(6, 0), 0);
            Tester.due("told or worn", x.tell(), turn == 0 ? 2 : Tester.NONE);
        }
        x.days(1);
        Tester.due("worn", x.tell(), Tester.NONE);
        Tester.due("listen by a worn code", x.listen(1), 6);
        Tester.due("not seen at all", x.far(1, 1), 5);
    }

    /** "TOLD now all that is SEEN but what it leaves out (TOLD already or not; guards LEARN as they do, but the CODE holds)". */
    private static void seatsWithWornCode() {
        OneWindow x = Tester.fort("sg1b1;cb9;cb9x1;vn1;vn2;vn9");
        x.see(0);
        x.see(1);
        Tester.due("both events", x.seat(0), 2);
        Tester.due("one is left out", x.seat(1), 1);
        x.tell();
        Tester.due("worn by the first", x.count(10), 1);
        Tester.due("told already, worn: both all the same", x.seat(0), 2);
        Tester.due("nothing more was learnt", x.count(10), 1);
        x.days(1);
        Tester.due("nothing is seen", x.seat(0), 0);
        Tester.due("seat 2", x.seat(2), Tester.NONE);
        Tester.due("seat -1", x.seat(-1), Tester.NONE);
        OneWindow y = Tester.fort("sb3;cb0;cb5;v;v");
        y.see(0);
        y.see(1);
        Tester.due("it pays once, then it has too little", y.seat(0), 3);
        Tester.due("the other has nothing", y.seat(1), 0);
    }

    /** "(of several the lowest)" of BEST SEAT, QUIET, RICH, MOST, ASK. */
    private static void ofSeveralTheLowest() {
        OneWindow x = Tester.fort("sw2b1;cb0;cb0;cb0;cb0;vn5;vn2;vn2");
        Tester.due("best of alike", x.best(), 0);
        Tester.due("quiet of alike", x.quiet(), 1);
        Tester.due("rich of alike", x.rich(), 0);
        Tester.due("most of alike", x.most(), 0);
        Tester.due("ask of alike", x.ask(7), 0);
        x.see(1);
        Tester.due("best of alike, seen", x.best(), 0);
        x.mirror(3, 2);
        x.move(1, 2);
        x.tell();
        Tester.due("all know one", x.most(), 0);
        OneWindow y = Tester.fort("sb1l4;cb1;cb1;cb2;cb2;vn2;vn1;vn1");
        Tester.due("rich", y.rich(), 2);
        y.see(0);
        y.mirror(2, 1);
        y.mirror(3, 1);
        y.tell();
        Tester.due("the teller knows it, too", y.most(), 0);
        y.days(1);
        y.move(0, 3);
        y.see(2);
        y.mirror(3, 0);
        y.mirror(2, 4);
        y.mirror(1, 4);
        y.tell();
        Tester.due("1, 2 and 3 know it", y.most(), 1);
        OneWindow z = Tester.fort("c;c;v;v;v");
        z.said(0, 0, true);
        Tester.due("ask what is not sure, the lowest", z.ask(0), 1);
    }

    /** "SWAP: by which change of two PRISONERS (10 times the lower and the other) .. (of several the least)". */
    private static void swapsOfSeveral() {
        OneWindow x = Tester.fort("c;c;c;c;c;c;c;v");
        Tester.due("nothing seen: the least", x.swap(0), 1);
        Tester.due("nothing", x.swap(1), 0);
        OneWindow y = Tester.fort("sw6b1l60;c;c;c;c;c;cx1;cx0;v");
        y.see(0);
        // who sits at the window leaves it out; whoever else sits there gets 6: the least pair with 6 is 0 and 6
        Tester.due("0 and 6", y.swap(0), 6);
        Tester.due("six", y.swap(1), 6);
        OneWindow z = Tester.fort("sw6b1l60;cx0;cx0;cx0;cx0;cx0;c;cx0;v");
        z.see(0);
        Tester.due("5 and 6", z.swap(0), 56);
        Tester.due("swap 2", z.swap(2), Tester.NONE);
        Tester.due("swap -1", z.swap(-1), Tester.NONE);
        OneWindow two = Tester.fort("c;c;v");
        Tester.due("of two", two.swap(0), 1);
    }

    /** "PRICES (0 .. 9): what an EVENT costs, by which SEAT of the TELLER would be most (of several the lowest); how much." */
    private static void pricesOfSeveral() {
        int[][] cases = {{0, 0, 0, 0}, {1, 0, 1, 1}, {9, 0, 9, 9}, {10, 0, 9, 9}, {6, 3, 3, 6}, {4, 2, 2, 4}, {9, 9, 9, 18}, {8, 5, 5, 10}};
        for (int[] one : cases) {
            OneWindow x = Tester.fort("sl9;c;cb" + one[0] + ";cb" + one[1] + ";v");
            x.see(0);
            Tester.due("price by " + one[0] + " and " + one[1], x.price(0), one[2]);
            Tester.due("how much by " + one[0] + " and " + one[1], x.price(1), one[3]);
            Tester.due("the rule stays", x.rule(3), 1);
        }
        OneWindow y = Tester.fort("c;cb6;v;v");
        y.see(0);
        y.see(1);
        // 3 twice or 6 once: the lowest
        Tester.due("3", y.price(0), 3);
        Tester.due("6", y.price(1), 6);
        Tester.due("price 2", y.price(2), Tester.NONE);
    }

    private static void codes(String fort, int digits, int sum) {
        OneWindow x = Tester.fort(fort);
        Tester.due("digits of " + fort, x.codes(0), digits);
        Tester.due("sum of " + fort, x.codes(1), sum);
    }

    /** "lengths 1 .. 5 for all EVENTS, so that the sum of 32 by 2 to each length is no more than 32". */
    private static void roomOf32() {
        codes("c;c;vp10", 1, 10);
        codes("c;c;vp0", 1, 0);
        codes("c;c;vp1;vp1", 11, 2);
        codes("c;c;vp1;vp1;vp1", 122, 5);
        codes("c;c;vp0;vp0;vp1", 221, 1);
        codes("c;c;vp1;vp1;vp1;vp1", 2222, 8);
        codes("c;c;vp10;vp5;vp2;vp1;vp0", 12344, 10 + 10 + 6 + 4);
        codes("c;c;vp10;vp5;vp2;vp1;vp0;vp0", 123455, 10 + 10 + 6 + 4);
        codes("c;c;vp0;vp0;vp1;vp2;vp5;vp10", 554321, 30);
        codes("c;c;vp10;vp10;vp10;vp10;vp10;vp10", 223333, 160);
    }

    /** "SAID (16 at most)", "SAID: how many there are. NONE: no such ones, there are 16." */
    private static void said16() {
        OneWindow x = Tester.fort("c;c;v;v");
        for (int i = 1; i <= 16; i++) {
            Tester.due("said " + i, x.said(i % 2, 0, true), i);
        }
        Tester.due("a 17th", x.said(0, 1, true), Tester.NONE);
        Tester.due("a 17th against", x.said(1, 0, false), Tester.NONE);
        Tester.due("16", x.count(13), 16);
        Tester.due("nobody lies", x.least(), 0);
        Tester.due("nothing of the second", x.truths(0, -1), 2);
        Tester.text(x, Tester.FORT, "c;c;v");
        Tester.due("another fort: none", x.count(13), 0);
        Tester.due("the first of it", x.said(0, 0, false), 1);
    }

    /** "TRUTHS with v (0 .. 7) LIARS or fewer", "out of bounds". */
    private static void liars7() {
        OneWindow x = Tester.fort("c;c;c;c;c;c;c;v");
        for (int i = 0; i < 7; i++) {
            Tester.due("least of " + i, x.least(), i);
            x.said(i, 0, true);
            x.said(i, 0, false);
        }
        Tester.due("all lie", x.least(), 7);
        Tester.due("all", x.liars(), 127);
        Tester.due("six or fewer", x.truths(6, -1), 0);
        Tester.due("none of them", x.truths(6, 0), Tester.NONE);
        Tester.due("seven or fewer", x.truths(7, -1), 2);
        Tester.due("sure for six", x.sure(6, 0), Tester.NONE);
        Tester.due("never for six", x.sure(6, 1), Tester.NONE);
        Tester.due("sure for seven", x.sure(7, 0), 0);
        Tester.due("ask for six", x.ask(6), Tester.NONE);
        Tester.due("ask for seven", x.ask(7), 0);
        Tester.due("v 8", x.truths(8, -1), Tester.NONE);
        Tester.due("sure 8", x.sure(8, 0), Tester.NONE);
        Tester.due("ask 8", x.ask(8), Tester.NONE);
        Tester.due("v -1", x.truths(-1, -1), Tester.NONE);
        Tester.due("sure -1", x.sure(-1, 0), Tester.NONE);
        Tester.due("ask -1", x.ask(-1), Tester.NONE);
    }

    /** "how many (i NONE), the i-th. NONE: no such one". */
    private static void truthsToTheLast() {
        for (int events = 1; events <= 6; events++) {
            OneWindow x = Tester.fort("c;c" + Tester.times(";v", events));
            int all = 1 << events;
            Tester.due("how many", x.truths(0, -1), all);
            Tester.due("the first", x.truths(0, 0), 0);
            Tester.due("the last", x.truths(0, all - 1), all - 1);
            Tester.due("one more", x.truths(0, all), Tester.NONE);
            Tester.due("i -2", x.truths(0, -2), Tester.NONE);
            x.said(0, events - 1, true);
            Tester.due("half of them", x.truths(0, -1), all / 2);
            Tester.due("the first of these", x.truths(0, 0), all / 2);
            Tester.due("the last of these", x.truths(0, all / 2 - 1), all - 1);
            Tester.due("none behind it", x.truths(0, all / 2), Tester.NONE);
            Tester.due("sure", x.sure(0, 0), all / 2);
            Tester.due("with a liar nothing is", x.sure(1, 0), 0);
            x.said(0, events - 1, false);
            Tester.due("no truth", x.truths(0, -1), 0);
            Tester.due("no first one", x.truths(0, 0), Tester.NONE);
            Tester.due("all with a liar", x.truths(1, -1), all);
        }
    }

    /** "NONE: there is no truth, no such what, no FORT, out of bounds." */
    private static void noTruth() {
        OneWindow x = Tester.fort("c;c;v;v");
        x.said(0, 0, true);
        x.said(1, 0, false);
        Tester.due("no truth without a liar", x.sure(0, 0), Tester.NONE);
        Tester.due("nor never", x.sure(0, 1), Tester.NONE);
        Tester.due("nor ask", x.ask(0), Tester.NONE);
        Tester.due("with one", x.sure(1, 0), 0);
        Tester.due("never with one", x.sure(1, 1), 0);
        Tester.due("ask with one", x.ask(1), 0);
        Tester.due("nobody lies by each", x.liars(), 0);
        Tester.due("what 2", x.sure(1, 2), Tester.NONE);
        Tester.due("what -1", x.sure(1, -1), Tester.NONE);
        OneWindow y = Tester.fort("c;c;v;v");
        y.said(0, 0, true);
        y.said(0, 1, false);
        Tester.due("sure of one", y.sure(0, 0), 1);
        Tester.due("never the other", y.sure(0, 1), 2);
        Tester.due("ask: both are as far apart", y.ask(0), 0);
    }

    /** "BELIEF of an EVENT: of 10 to the 6 parts .. (together 0: NONE)", with p and HONESTY 0 and 10. */
    private static void beliefsAtTheirBounds() {
        OneWindow x = Tester.fort("ch10;ch0;vp0;vp10;vp1");
        Tester.due("never", x.belief(0), 0);
        Tester.due("always", x.belief(1), 1000000);
        Tester.due("one of ten", x.belief(2), 100000);
        Tester.due("event 3", x.belief(3), Tester.NONE);
        Tester.due("event -1", x.belief(-1), Tester.NONE);
        x.said(0, 2, true);
        Tester.due("who always tells what is so", x.belief(2), 1000000);
        x.said(1, 2, false);
        Tester.due("who never does", x.belief(2), 1000000);
        x.said(1, 2, true);
        Tester.due("lies by each truth", x.belief(2), 1000000);
        x.said(0, 0, true);
        Tester.due("together 0", x.belief(2), Tester.NONE);
        Tester.due("together 0 for each", x.belief(1), Tester.NONE);
        OneWindow y = Tester.fort("ch9;ch9;ch9;ch9;ch9;ch9;ch9;vp9;vp9;vp9;vp9;vp9;vp9");
        for (int i = 0; i < 7; i++) {
            y.said(i, 0, true);
        }
        // 9 to the 8 by itself and 1
        Tester.due("nearly all parts, cut", y.belief(0), 999999);
        OneWindow z = Tester.fort("ch9;ch9;ch9;ch9;ch9;ch9;ch9;vp1;vp9;vp9;vp9;vp9;vp9");
        for (int i = 0; i < 7; i++) {
            z.said(i, 0, false);
        }
        Tester.due("nearly none, cut", z.belief(0), 0);
    }

    /** "TRUST of a CELL: PRISONERS (bits) in CELLS between it and the WINDOW's (neither)." */
    private static void trustBetween() {
        OneWindow x = Tester.fort("sw3;c;c;c;c;c;c;c;v");
        int[] want = {6, 4, 0, 0, 0, 16, 48};
        for (int cell = 0; cell < 7; cell++) {
            Tester.due("trust " + cell, x.trust(cell), want[cell]);
        }
        Tester.due("trust 7", x.trust(7), Tester.NONE);
        Tester.due("trust -1", x.trust(-1), Tester.NONE);
        OneWindow y = Tester.fort("c;c;v");
        Tester.due("no cell between", y.trust(1), 0);
        Tester.due("cell 2 of two", y.trust(2), Tester.NONE);
    }

    /** "ESCAPE of a set of PRISONERS (bits) .. (of several the lowest)", "NONE: there is none, no such ones." */
    private static void escapeSets() {
        for (int cells = 2; cells <= 7; cells++) {
            OneWindow x = Tester.fort("sl60" + Tester.times(";ct1", cells) + ";v");
            int all = (1 << cells) - 1;
            Tester.due("all of " + cells, x.escape(all, 0), 0);
            Tester.due("beyond all", x.escape(all + 1, 0), Tester.NONE);
            Tester.due("nobody", x.escape(0, 0), 0);
            Tester.due("the last alone: all others hear it from anywhere", x.escape(1 << cells - 1, 0), 0);
            Tester.due("less than none", x.escape(-1, 0), Tester.NONE);
            Tester.due("event 1", x.escape(all, 1), Tester.NONE);
            Tester.due("event -1", x.escape(all, -1), Tester.NONE);
        }
        OneWindow y = Tester.fort("sl1;ct1;ct1;ct0;c;v");
        Tester.due("nobody hears 0", y.escape(1, 0), 0);
        Tester.due("1 tells itself", y.escape(2, 0), 1);
        Tester.due("2 and 3 hear one another", y.escape(12, 0), 2);
        Tester.due("0 and 1 never", y.escape(3, 0), Tester.NONE);
        Tester.due("nobody: where nobody hears", y.escape(0, 0), 0);
    }

    /** "WEARS: behind how many DAYS (0: it is now; 99 at most) the CODE is WORN", "NONE: not within 99, no FORT." */
    private static void wears99() {
        Tester.due("99 by 1", Tester.fort("sg99;c;c;vn1").wears(), 99);
        Tester.due("98 by 1", Tester.fort("sg98;c;c;vn1").wears(), 98);
        Tester.due("1 by 1", Tester.fort("sg1;c;c;vn1").wears(), 1);
        Tester.due("1 by 9", Tester.fort("sg1;c;c;vn9").wears(), 1);
        Tester.due("9 by 9", Tester.fort("sg9;c;c;vn9").wears(), 1);
        Tester.due("10 by 9", Tester.fort("sg10;c;c;vn9").wears(), 2);
        Tester.due("99 by 54", Tester.fort("sg99;c;c;vn9;vn9;vn9;vn9;vn9;vn9").wears(), 2);
        Tester.due("all is left out", Tester.fort("sg1;cx0;c;vn9").wears(), Tester.NONE);
        Tester.due("one is left out", Tester.fort("sg18;cx0;c;vn9;vn9").wears(), 2);
        OneWindow x = Tester.fort("sg3b0;c;c;vn1");
        for (int left = 3; left > 0; left--) {
            Tester.due("left", x.wears(), left);
            x.see(0);
            x.tell();
            x.days(1);
        }
        Tester.due("now", x.wears(), 0);
        x.code();
        Tester.due("anew", x.wears(), 3);
    }

    /** "MERITS: PRISONERS as digits from the CELL 0 on, by MERIT (the most first, of several the lowest)." */
    private static void meritsOfSeven() {
        Tester.due("all alike", Tester.fort("c;c;c;c;c;c;c;v").merits(), 123456);
        Tester.due("two", Tester.fort("cm0;cm9;v").merits(), 10);
        Tester.due("two alike", Tester.fort("cm9;cm9;v").merits(), 1);
        Tester.due("0 the last", Tester.fort("cm0;cm9;cm9;cm1;cm1;cm5;cm5;v").merits(), 1256340);
    }

    /** "HIDDEN: no such ones, alike, the TELLER, out of bounds.", "how many (i NONE), the i-th. NONE: no such one". */
    private static void buysAndRests() {
        OneWindow x = Tester.fort("sb3l60;c;c;c;v");
        Tester.due("nothing seen: all four", x.rests(1, 2, -1), 4);
        int[] all = {0, 1, 10, 11};
        for (int i = 0; i < 4; i++) {
            Tester.due("rest " + i, x.rests(1, 2, i), all[i]);
        }
        Tester.due("rest 4", x.rests(1, 2, 4), Tester.NONE);
        Tester.due("rest -2", x.rests(1, 2, -2), Tester.NONE);
        x.see(0);
        // 3 less 3 is nothing; both: -1
        Tester.due("buys alone", x.buys(1, 2, 1, 0), 0);
        Tester.due("both buy", x.buys(1, 2, 1, 1), -1);
        Tester.due("three", x.rests(1, 2, -1), 3);
        Tester.due("both is none of them", x.rests(1, 2, 2), 10);
        Tester.due("no fourth", x.rests(1, 2, 3), Tester.NONE);
        Tester.due("the teller", x.buys(0, 1, 1, 1), Tester.HIDDEN);
        Tester.due("with the teller", x.buys(1, 0, 1, 1), Tester.HIDDEN);
        Tester.due("rests of the teller", x.rests(0, 1, -1), Tester.NONE);
        x.move(0, 1);
        Tester.due("the teller is another one", x.buys(0, 2, 1, 1), -1);
        Tester.due("it is 1 now", x.buys(1, 2, 1, 1), Tester.HIDDEN);
        OneWindow y = Tester.fort("c;c;v");
        Tester.due("no two beside the teller", y.rests(0, 1, -1), Tester.NONE);
        Tester.due("alike", y.buys(1, 1, 0, 0), Tester.HIDDEN);
        OneWindow z = Tester.fort("sb0l60;cx0;c;c;v;v");
        z.see(0);
        z.see(1);
        Tester.due("what the teller leaves out is not heard", z.buys(1, 2, 1, 0), 3);
        Tester.due("both", z.buys(1, 2, 1, 1), 2);
        Tester.due("both buy, no other", z.rests(1, 2, -1), 1);
        Tester.due("11", z.rests(1, 2, 0), 11);
        z.days(1);
        Tester.due("nothing is seen on the next day", z.buys(1, 2, 1, 0), 0);
        Tester.due("all four", z.rests(1, 2, -1), 4);
        z.see(0);
        Tester.due("what is left out alone", z.buys(1, 2, 1, 1), 0);
        z.see(1);
        Tester.hold(z, "y:m+57");
        Tester.due("1 hears nothing", z.buys(1, 2, 1, 1), 0);
        z.move(0, 1);
        Tester.due("of the teller 1", z.buys(0, 2, 1, 1), 0);
    }

    private static OneWindow thinker() {
        OneWindow x = Tester.fort("sw1l15g9b2;cb4;cb5x1;cb0m9;cb7;vn4;vn3;vn2");
        Tester.text(x, Tester.LAW, "y:t+g/3");
        Tester.text(x, Tester.PLAN, "s2;t;e;m03;s0;t;c;e;e");
        x.law(0);
        x.see(0);
        x.see(1);
        x.mirror(3, 5);
        x.said(0, 1, true);
        x.said(2, 1, false);
        return x;
    }

    /** "RUN of a PLAN (apart)", and whatever else is worked out: asked of an object, it leaves it as it was. */
    private static void thinkingChangesNothing() {
        int ahead = 20;
        for (int way = 2; way < 4; way++) {
            OneWindow x = thinker();
            String first = Portrait.of(x, ahead, 0);
            Tester.due("calls of the portrait", first.split("\n").length < 290, true);
            int most = 290 + ahead;
            Tester.due("as if nothing had been asked", Portrait.of(x, most, way).equals(Portrait.of(thinker(), most, way)), true);
        }
        OneWindow y = thinker();
        y.run(0, 0);
        y.best();
        y.swap(0);
        y.price(1);
        y.rests(0, 2, -1);
        y.escape(5, 0);
        y.codes(0);
        Tester.due("alike", Portrait.of(y, ahead + 7, 0).equals(Portrait.of(thinker(), ahead, 0)), true);
    }
}
