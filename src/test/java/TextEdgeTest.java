/** The bounds of texts, sentence by sentence: just within, just beyond. The document's words stand over each test. */
public final class TextEdgeTest {
    public static void main(String[] args) {
        tapeOf240();
        firstBytesAlone();
        cellsAndEvents();
        numbersOfRules();
        numbersOfCells();
        numbersOfEvents();
        oneOrTwoDigits();
        leftOut();
        eachLetterOnce();
        windowThatIsTold();
        clausesOfFort();
        numbersOfLaws();
        withinOneAnother();
        heldNumbers();
        division();
        worthWithout();
        fourOfEach();
        stepsOfPlans();
        digitsOfSteps();
        blanks();
        endsTooEarly();
        lookedAtAlone();
        goneWithTheFort();
        Tester.end();
    }

    private static void fault(int sort, String text, int want) {
        Tester.due("fault " + sort + " of " + text, Tester.fault(new OneWindow(), sort, text), want);
    }

    private static void fort(String text, int want) {
        fault(Tester.FORT, text, want);
    }

    private static void law(String text, int want) {
        fault(Tester.LAW, text, want);
    }

    private static void plan(String text, int want) {
        fault(Tester.PLAN, text, want);
    }

    /** "Twenty bytes more come to the TAPE (bytes of 0 are left out): how many it has. NONE: more than 240." */
    private static void tapeOf240() {
        OneWindow x = new OneWindow();
        Tester.put(x, "t" + Tester.times(" ", 219));
        Tester.due("220", x.count(4), 220);
        Tester.due("twenty more: 240", x.feed(0x20202020, 0x20202020, 0x20202020, 0x20202020, 0x20202020), 240);
        Tester.due("240 bytes are a text", x.text(2), 0);
        Tester.put(x, "t" + Tester.times(" ", 220));
        Tester.due("221", x.count(4), 221);
        Tester.due("twenty more: 241", x.feed(0x20202020, 0x20202020, 0x20202020, 0x20202020, 0x2020203b), Tester.NONE);
        Tester.due("none of them came", x.count(4), 221);
        Tester.due("nineteen more: 240", x.feed(0x00202020, 0x20202020, 0x20202020, 0x20202020, 0x2020203b), 240);
        Tester.due("the last of them is there", x.fault(2), 240);
        Tester.due("bytes of 0 alone", x.feed(0, 0, 0, 0, 0), 240);
    }

    /** "The TAPE has its first n bytes alone. False: n." */
    private static void firstBytesAlone() {
        OneWindow x = new OneWindow();
        Tester.due("an empty one", x.end(0), true);
        Tester.due("of none the first one", x.end(1), false);
        Tester.put(x, "t;e;x");
        Tester.due("six of five", x.end(6), false);
        Tester.due("-1", x.end(-1), false);
        Tester.due("five", x.end(5), true);
        Tester.due("with the fifth", x.fault(2), 4);
        Tester.due("three", x.end(3), true);
        Tester.due("without it", x.fault(2), Tester.NONE);
        Tester.due("the fifth is gone", x.end(5), false);
        Tester.due("more come behind the third", x.feed(0x3b630000, 0, 0, 0, 0), 5);
        Tester.due("t;e;c", x.text(2), 0);
        Tester.due("its third step", x.step(0, 2, 0), 3);
        Tester.due("the text took the tape", x.end(1), false);
    }

    /** "c (a CELL with a PRISONER; 2 .. 7), v (an EVENT; 1 .. 6)", "an eighth c, a seventh v .. at it". */
    private static void cellsAndEvents() {
        for (int cells = 0; cells <= 8; cells++) {
            for (int events = 0; events <= 7; events++) {
                String text = Tester.times("c;", cells) + Tester.times("v;", events);
                text = text.isEmpty() ? text : text.substring(0, text.length() - 1);
                boolean few = cells < 2 || events < 1;
                int want = cells > 7 ? 14 : events > 6 ? 2 * cells + 12 : few ? text.length() : Tester.NONE;
                OneWindow x = new OneWindow();
                Tester.due(cells + " cells, " + events + " events", Tester.fault(x, Tester.FORT, text), want);
                Tester.due("text of it", x.text(0), want == Tester.NONE ? cells : Tester.NONE);
                Tester.due("its cells", x.count(0), want == Tester.NONE ? cells : 0);
                Tester.due("its events", x.count(1), want == Tester.NONE ? events : 0);
            }
        }
    }

    /** "of s: w (0 .. 6; 0 without), l (1 .. 60; 20), g (1 .. 99; 40), b (0 .. 9; 1)". */
    private static void numbersOfRules() {
        String letters = "wlgb";
        int[] least = {0, 1, 1, 0};
        int[] most = {6, 60, 99, 9};
        int[] usual = {0, 20, 40, 1};
        for (int what = 0; what < 4; what++) {
            for (int number : new int[] {least[what], most[what]}) {
                OneWindow x = Tester.fort("s" + letters.charAt(what) + number + ";c;c;c;c;c;c;c;v");
                for (int other = 0; other < 4; other++) {
                    Tester.due("rule " + other, x.rule(other), other == what ? number : usual[other]);
                }
            }
        }
        fort("sl0;c;c;v", 2);
        fort("sg0;c;c;v", 2);
        fort("sw7;c;c;v", 2);
        fort("sl61;c;c;v", 3);
        fort("sb10;c;c;v", 3);
        fort("sg100;c;c;v", 4);
    }

    /** "of c: t (0 .. 30; 4), m (0 .. 9; 3), h (0 .. 10; 9), x (0 .. 6; 6: none; 6), b (0 .. 99; 5)". */
    private static void numbersOfCells() {
        for (int[] one : new int[][] {{0, 0, 0, 0, 0}, {30, 9, 10, 6, 99}}) {
            OneWindow x = Tester.fort("c;ct" + one[0] + "m" + one[1] + "h" + one[2] + "x" + one[3] + "b" + one[4] + ";c;v");
            Tester.due("thick", x.cell(1, 0), one[0]);
            Tester.due("merit", Tester.prisoner(x, 1, 1), one[1]);
            Tester.due("honesty", Tester.prisoner(x, 1, 2), one[2]);
            Tester.due("left out", Tester.prisoner(x, 1, 3), one[3] == 0 ? 0 : Tester.NONE);
            Tester.due("bread", Tester.prisoner(x, 1, 4), one[4]);
            Tester.due("the next is as usual", Tester.prisoner(x, 2, 4), 5);
            Tester.due("its wall, too", x.cell(2, 0), 4);
        }
        fort("c;ct31;v", 5);
        fort("c;cm10;v", 5);
        fort("c;ch11;v", 5);
        fort("c;cx7;v", 4);
        fort("c;cb100;v", 6);
    }

    /** "of v: n KNOCKS that it takes (1 .. 9; 3), p in how many of ten days it is (0 .. 10; 5)". */
    private static void numbersOfEvents() {
        for (int[] one : new int[][] {{1, 0}, {9, 10}}) {
            OneWindow x = Tester.fort("v;c;vn" + one[0] + "p" + one[1] + ";c;v");
            Tester.due("knocks", x.event(1, 0), one[0]);
            Tester.due("of ten", x.event(1, 1), one[1]);
            Tester.due("ahead as usual", x.event(0, 0), 3);
            Tester.due("behind as usual", x.event(2, 1), 5);
        }
        fort("c;c;vn0", 6);
        fort("c;c;vn10", 7);
        fort("c;c;vp11", 7);
    }

    /** "a number (one or two digits)", "a third digit (whatever stands ahead of it) itself". */
    private static void oneOrTwoDigits() {
        OneWindow x = Tester.fort("sw01l07;cm05b00;cb09;vn08p00");
        Tester.due("01", x.rule(0), 1);
        Tester.due("07", x.rule(1), 7);
        Tester.due("05", Tester.prisoner(x, 0, 1), 5);
        Tester.due("00", Tester.prisoner(x, 0, 4), 0);
        Tester.due("09", Tester.prisoner(x, 1, 4), 9);
        Tester.due("08", x.event(0, 0), 8);
        fort("c;cb001;v", 6);
        fort("c;cb990;v", 6);
        fort("c;cm999;v", 6);
        fort("c;cm9999;v", 6);
        fort("c;c;vn000", 8);
        fort("c;c;vn00", 7);
        fort("c;cb;v", 4);
    }

    /** "One that leaves out an EVENT that is not told leaves out none." */
    private static void leftOut() {
        OneWindow x = Tester.fort("cx1;cx2;cx5;cx6;v;v");
        int[] want = {1, Tester.NONE, Tester.NONE, Tester.NONE};
        for (int i = 0; i < 4; i++) {
            Tester.due("leaves out of two " + i, Tester.prisoner(x, i, 3), want[i]);
        }
        OneWindow y = Tester.fort("cx4;cx5;cx6;v;v;v;v;v;v");
        Tester.due("the fifth", Tester.prisoner(y, 0, 3), 4);
        Tester.due("the sixth", Tester.prisoner(y, 1, 3), 5);
        Tester.due("none", Tester.prisoner(y, 2, 3), Tester.NONE);
        for (int event = 0; event < 6; event++) {
            y.see(event);
        }
        Tester.due("five of six, two hear each", y.tell(), 10);
        OneWindow z = Tester.fort("cx1;c;v");
        z.see(0);
        Tester.due("nothing is left out", z.tell(), 1);
    }

    /** "a letter, each once at most in a CLAUSE", "a letter that was there .. at it", "s (its RULES; one at most)". */
    private static void eachLetterOnce() {
        fort("sw1l2g3b4;c;c;v", Tester.NONE);
        fort("sw1l2g3b4w1;c;c;v", 9);
        fort("sb4b4;c;c;v", 3);
        fort("ct1m2h3x4b5;c;v", Tester.NONE);
        fort("ct1m2h3x4b5t", 11);
        fort("ct1;ct1;vn1;vn1", Tester.NONE);
        fort("c;c;vp1n2p", 9);
        fort("s;c;c;v;s", 8);
        fort("s;s", 2);
    }

    /** "w the CELL with the WINDOW", "(the length, if .. a WINDOW in a CELL that is not told)". */
    private static void windowThatIsTold() {
        for (int cells = 2; cells <= 7; cells++) {
            for (int window = 0; window <= 6; window++) {
                String text = "sw" + window + Tester.times(";c", cells) + ";v";
                fort(text, window < cells ? Tester.NONE : text.length());
            }
        }
        OneWindow x = Tester.fort("sw6;c;c;c;c;c;c;c;v");
        Tester.due("the last cell's", x.count(7), 6);
        fort("sw2;c;c;v;c", Tester.NONE);
        fort("sw2;c;c;v;x", 10);
    }

    /** "CLAUSES with ; between .. in any order, then ITEMS, none or more". */
    private static void clausesOfFort() {
        fort("s;c;c;c;c;c;c;c;v;v;v;v;v;v", Tester.NONE);
        fort("v;v;v;v;v;v;c;c;c;c;c;c;c;s", Tester.NONE);
        fort("s;c;c;c;c;c;c;c;v;v;v;v;v;v;s", 28);
        fort("s;c;c;c;c;c;c;c;v;v;v;v;v;v;c", 28);
        fort("s;c;c;c;c;c;c;c;v;v;v;v;v;v;v", 28);
        fort("c;c;v;", 6);
        fort("c;c;v;;", 6);
        fort(";", 0);
        fort("c,c;v", 1);
        fort("cc;v", 1);
    }

    /** "ATOM: a number (1 to 4 digits)", "a fifth one in a LAW" itself. */
    private static void numbersOfLaws() {
        law("y:9999", Tester.NONE);
        law("y:99999", 6);
        law("y:00000", 6);
        law("y:t=12345?1", 8);
        law("y:t=1?12345", 10);
        law("y:[12345]", 7);
        OneWindow x = Tester.fort("sl60;c;c;v");
        Tester.hold(x, "y:0059");
        Tester.due("0059", x.far(0, 1), 1);
        Tester.hold(x, "y:9999/200");
        Tester.due("49", x.far(0, 1), 11);
    }

    /** "At most six of ( [ ! within one another", "a seventh of ( [ ! in a LAW at it". */
    private static void withinOneAnother() {
        for (int n = 1; n <= 9; n++) {
            String nots = Tester.times("!", n);
            String squares = Tester.times("[", n) + "t" + Tester.times("]", n);
            String rounds = Tester.times("(", n) + "t=1" + Tester.times(")", n);
            law("y:" + nots + "t=1?1", n <= 6 ? Tester.NONE : 8);
            law("y:" + squares, n <= 6 ? Tester.NONE : 8);
            law("y:" + rounds + "?1", n <= 6 ? Tester.NONE : 8);
            law("y:" + squares + "=1?1", n <= 6 ? Tester.NONE : 8);
            law("y:t=" + squares + "?1", n <= 6 ? Tester.NONE : 10);
            law("y:t=1?" + squares, n <= 6 ? Tester.NONE : 12);
            law("y:t=1&" + nots + "t=1?1", n <= 6 ? Tester.NONE : 12);
            law("y:t=1|" + rounds + "?1", n <= 6 ? Tester.NONE : 12);
            law("y:1;y:" + squares, n <= 6 ? Tester.NONE : 12);
        }
        law("y:(!(![[t]]=1))?1", Tester.NONE);
        law("y:(!(![[[t]]]=1))?1", 8);
        law("y:!(!(!(t=1)))?1", Tester.NONE);
        law("y:!(!(!(!t=1)))?1", 8);
        law("y:!(!(!(t=[1])))?1", 10);
        law("y:(t=1)&(t=1)&(t=1)&(t=1)&!t=1&[1]=1&[1]=1?[1]", Tester.NONE);
        OneWindow x = Tester.fort("sl60;ct7;c;v");
        Tester.hold(x, "y:[1+[1+[1+[1+[1+[1+t]]]]]]");
        Tester.due("13", x.far(0, 1), 47);
        Tester.hold(x, "y:!!!!!!t=7?5");
        Tester.due("six nots", x.far(0, 1), 55);
    }

    private static void worth(String law, int want) {
        OneWindow x = Tester.fort("sl60;ct7;cm2;vn5;vn9");
        Tester.hold(x, law);
        Tester.due("worth of " + law, 60 - x.far(1, 1), want);
    }

    /** "Behind each sign numbers are within -1,000,000 .. 1,000,000". */
    private static void heldNumbers() {
        worth("y:1000*1000=1000*1000?1;y:2", 1);
        worth("y:1000*1000>999*1000+999?1;y:2", 1);
        worth("y:1000*1000-1000*1000+5", 5);
        worth("y:1000*1000+1=1000*1000?1;y:2", 1);
        worth("y:1000*1000+1-1=1000*1000-1?1;y:2", 1);
        worth("y:1000*1000-1=999*1000+999?1;y:2", 1);
        worth("y:1001*1000=1000*1000?1;y:2", 1);
        worth("y:[0-1000]*1000-1=[0-1000]*1000?1;y:2", 1);
        worth("y:[0-1000]*1000-1+1=[0-999]*1000-999?1;y:2", 1);
        worth("y:[0-1001]*1000=[0-1000]*1000?1;y:2", 1);
        worth("y:9999*9999*9999*9999/1000/100", 10);
        worth("y:[0-9999]*9999*9999*9999/1000/[0-100]", 10);
    }

    /** "/ cuts towards 0, by 0 gives 0". */
    private static void division() {
        worth("y:7/2", 3);
        worth("y:20+[0-7]/2", 17);
        worth("y:20+7/[0-2]", 17);
        worth("y:20+[0-7]/[0-2]", 23);
        worth("y:20+[0-1]/2", 20);
        worth("y:8+7/0", 8);
        worth("y:8+[0-7]/0", 8);
        worth("y:8+0/0", 8);
        worth("y:8+7/[t-7]", 8);
        worth("y:8+7/[5/0]", 8);
    }

    /** "WORTH of a LAW: the SUM of the first CLAUSE whose CONDITION holds (or has none), 0 without." */
    private static void worthWithout() {
        worth("y:t=8?9", 0);
        worth("y:t=8?9;y:n=8?9;y:m=8?9", 0);
        worth("y:t=8?9;y:n=8?9;y:m=2?9", 9);
        worth("y:t=8?9;y:5;y:6", 5);
    }

    /** "LAWS (4 at most)", "PLANS (4 at most)", "NONE: a FAULT, no such sort, there are four." */
    private static void fourOfEach() {
        OneWindow x = Tester.fort("sl60;c;c;v");
        for (int i = 0; i < 4; i++) {
            Tester.due("law " + i, Tester.text(x, Tester.LAW, "y:" + (10 + i)), i);
            Tester.due("no law behind it", x.law(i + 1), false);
            Tester.due("plan " + i, Tester.text(x, Tester.PLAN, "s" + i), i);
            Tester.due("no plan behind it", x.step(i + 1, 0, 0), Tester.HIDDEN);
        }
        Tester.due("a fifth law", Tester.text(x, Tester.LAW, "y:50"), Tester.NONE);
        Tester.due("the tape keeps it", x.count(4), 4);
        Tester.due("a fifth plan", Tester.text(x, Tester.PLAN, "s9;t"), Tester.NONE);
        Tester.due("the tape keeps that", x.count(4), 4);
        for (int i = 0; i < 4; i++) {
            Tester.due("law " + i + " holds", x.law(i), true);
            Tester.due("as it was", x.far(0, 1), 50 - i);
            Tester.due("plan " + i + " as it was", x.step(i, 0, 1), i);
            Tester.due("of one step", x.step(i, 1, 0), Tester.HIDDEN);
        }
        Tester.due("laws", x.count(2), 4);
        Tester.due("plans", x.count(3), 4);
        Tester.due("law 4", x.law(4), false);
        Tester.due("a fort all the same", Tester.text(x, Tester.FORT, "c;c;v"), 2);
    }

    /** "STEPS with ; between, 1 to 16", "the ; ahead of a 17th STEP". */
    private static void stepsOfPlans() {
        for (int n = 1; n <= 18; n++) {
            String text = Tester.times("m21;", n);
            text = text.substring(0, text.length() - 1);
            OneWindow x = new OneWindow();
            Tester.due(n + " steps", Tester.fault(x, Tester.PLAN, text), n <= 16 ? Tester.NONE : 63);
            Tester.due("text of them", x.text(2), n <= 16 ? 0 : Tester.NONE);
            Tester.due("the last one", x.step(0, n - 1, 2), n <= 16 ? 1 : Tester.HIDDEN);
            Tester.due("none behind it", x.step(0, n, 2), Tester.HIDDEN);
        }
        plan("", 0);
        plan(Tester.times("t;", 16), 31);
        plan(Tester.times("t;", 15), 30);
    }

    /** "(A PRISONER, an EVENT of a STEP that is not there is no FAULT: the STEP can't be.)" */
    private static void digitsOfSteps() {
        for (int digit = 0; digit <= 9; digit++) {
            OneWindow x = Tester.fort("c;c;c;v;v");
            Tester.due("s" + digit, Tester.text(x, Tester.PLAN, "s" + digit), 0);
            Tester.due("m0" + digit, Tester.text(x, Tester.PLAN, "m0" + digit), 1);
            Tester.due("m" + digit + "1", Tester.text(x, Tester.PLAN, "m" + digit + "1"), 2);
            Tester.due("step", x.step(0, 0, 1), digit);
            Tester.due("second digit", x.step(1, 0, 2), digit);
            Tester.due("s can be", x.run(0, 0), digit < 2 ? Tester.NONE : 0);
            Tester.due("m can be", x.run(1, 0), digit == 1 || digit == 2 ? Tester.NONE : 0);
            Tester.due("m can be, too", x.run(2, 0), digit == 0 || digit == 2 ? Tester.NONE : 0);
            Tester.due("s is done", x.perform(0), digit < 2 ? 1 : 0);
        }
        plan("s10", 2);
        plan("m012", 3);
        plan("t0", 1);
        plan("c1", 1);
        plan("e2", 1);
    }

    /** "Blanks (32) may stand between all signs of these, not within numbers (between digits of a STEP they may)." */
    private static void blanks() {
        fort("  s  w  1  b  9  ;  c  t  30  ;  c  ;  v  n  9  ", Tester.NONE);
        fort("c;cb1 2;v", 6);
        fort("c;cb12 3;v", 7);
        law("  y  :  [  t  +  12  ]  =  3  &  !  (  n  <  4  )  ?  m  ;  y  :  5  ", Tester.NONE);
        law("y:1 2", 4);
        plan("  s  1  ;  m  2  3  ;  t  ", Tester.NONE);
        for (int sign : new int[] {1, 9, 10, 13, 31, 33, 127, 128, 160, 255}) {
            fort("c;" + (char) sign + "c;v", 2);
            law("y:" + (char) sign + (char) sign + "t", sign == 33 ? 5 : 2);
            plan("t" + (char) sign, 1);
        }
    }

    /** "(the length, if it ends too early, with fewer than two CELLS, without an EVENT ..)". */
    private static void endsTooEarly() {
        for (String text : new String[] {"", " ", "s", "c", "c;", "c;c", "c;c;", "c;v", "c;c;v;", "c;c;vn", "c;c;v n ", "sw", "v;v"}) {
            fort(text, text.length());
        }
        for (String text : new String[] {"", "y", "y:", "y:[", "y:[t", "y:t+", "y:t*", "y:t=", "y:t=1", "y:t=1?", "y:t=1&",
            "y:t=1|", "y:!", "y:(", "y:(t", "y:(t=1", "y:(t=1)", "y:1;", "y:1 ; y "}) {
            law(text, text.length());
        }
        for (String text : new String[] {"", "s", "m", "m1", "m 1 ", "t;", "s1;"}) {
            plan(text, text.length());
        }
    }

    /** "The FAULT of the TAPE as a FORT (0), a LAW (1), a PLAN (2)": looking at a text, ever so often, takes nothing of it. */
    private static void lookedAtAlone() {
        OneWindow x = Tester.fort("sl60;c;c;v");
        Tester.text(x, Tester.PLAN, "t;e");
        Tester.put(x, "y:t=4?50;y:40");
        Tester.due("a law", x.fault(1), Tester.NONE);
        Tester.due("no law was told", x.count(2), 0);
        Tester.put(x, "y:t=5?30;y:20");
        Tester.due("another one", x.fault(1), Tester.NONE);
        Tester.due("it is the first", x.text(1), 0);
        x.law(0);
        Tester.due("the one that was told holds", x.far(0, 1), 40);
        Tester.put(x, "y:59");
        x.fault(1);
        Tester.due("the first holds still", x.far(0, 1), 40);
        Tester.put(x, "s1;s2;s3");
        x.fault(2);
        Tester.due("the plan is as it was", x.step(0, 0, 0), 2);
        Tester.due("of two steps", x.step(0, 2, 0), Tester.HIDDEN);
        Tester.put(x, "sl9w1;cm7;c;v;v");
        for (int turn = 0; turn < 3; turn++) {
            Tester.due("a fort", x.fault(0), Tester.NONE);
            Tester.due("is not the fort", x.rule(1), 60);
            Tester.due("nor its events", x.count(1), 1);
        }
        Tester.due("now it is", x.text(0), 2);
        Tester.due("its rule", x.rule(1), 9);
        Tester.put(x, "sb3;c;c;v");
        x.fault(0);
        Tester.due("not the one behind it", x.rule(3), 1);
        Tester.due("till it is told", x.text(0), 2);
        Tester.due("loud as usual", x.rule(1), 20);
        Tester.due("its price", x.rule(3), 3);
    }

    /** "all that was of another one, SAID, too, is gone but LAWS, which holds, PLANS, GUARDS". */
    private static void goneWithTheFort() {
        OneWindow x = Tester.fort("ch10;ch10;vp5;vp2;vp9");
        Tester.due("codes of the first", x.codes(0), 221);
        x.said(0, 0, true);
        x.said(1, 1, false);
        Tester.due("sure", x.sure(0, 0), 1);
        Tester.due("never", x.sure(0, 1), 2);
        Tester.text(x, Tester.FORT, "ch10;ch10;vp9;vp5;vp2");
        Tester.due("codes of the second", x.codes(0), 122);
        Tester.due("their sum", x.codes(1), 23);
        Tester.due("nothing is sure", x.sure(0, 0), 0);
        Tester.due("nothing is never", x.sure(0, 1), 0);
        Tester.due("all truths", x.truths(0, -1), 8);
        Tester.due("as often as it is", x.belief(0), 900000);
        Tester.due("likewise", x.belief(1), 500000);
    }
}
