/** The bounds of days and acts, sentence by sentence: just within, just beyond. The document's words stand over each test. */
public final class DayEdgeTest {
    public static void main(String[] args) {
        heldWithin99();
        aboveNothing();
        soMuchBread();
        noLessThanWorn();
        onceADay();
        mirrorsOfAllEvents();
        latest60();
        daysAtOnce();
        dayAt9999();
        twoBread();
        latest40();
        eachDayIsAnAct();
        undoneAndGoneOn();
        yearsAtOnce();
        drawsOfTen();
        goingRound();
        guardsOfTen();
        mostMeritOfOthers();
        sevenAndSix();
        imageOfThisFort();
        imageKeepsTheLog();
        countsAtTheirBounds();
        calls512();
        Tester.end();
    }

    /** "behind each wall less by WORTH by the LAW that holds, held within 0 .. 99 (none at first: how THICK it is)". */
    private static void heldWithin99() {
        OneWindow x = Tester.fort("sl60;ct30;ct30;c;v");
        Tester.due("thick 30", x.far(0, 1), 30);
        Tester.due("thick 30 again", x.far(0, 2), 0);
        int[] worths = {-9999, -1, 0, 1, 59, 60, 98, 99, 100, 9999};
        for (int worth : worths) {
            OneWindow y = Tester.fort("sl60;c;c;v");
            Tester.hold(y, worth < 0 ? "y:0-" + -worth : "y:" + worth);
            Tester.due("left behind " + worth, y.far(0, 1), Math.max(0, 60 - Math.max(0, worth)));
        }
        OneWindow z = Tester.fort("sl60;c;c;c;v");
        Tester.hold(z, "y:m=3&t=4&d=0?0-50;y:20");
        Tester.due("less than nothing is not given back", z.far(0, 2), 60);
    }

    /** "who sits in a CELL where it is above 0 HEARS it; from where it is 0 or less on, nobody further on that side". */
    private static void aboveNothing() {
        for (int loud = 1; loud <= 10; loud++) {
            OneWindow x = Tester.fort("sw1l" + loud + "b0g99;ct4;ct3;ct0;ct4;c;v");
            // below: 4; above: 3, 3 (a wall of 0), 7
            int below = loud > 4 ? 1 : 0;
            int above = loud > 7 ? 3 : loud > 3 ? 2 : 0;
            x.see(0);
            Tester.due("heard of " + loud, x.tell(), below + above);
            Tester.due("0 knows", Tester.prisoner(x, 0, 5), below);
            Tester.due("3 knows", Tester.prisoner(x, 3, 5), above >= 2 ? 1 : 0);
            Tester.due("4 knows", Tester.prisoner(x, 4, 5), above == 3 ? 1 : 0);
            Tester.due("wall below", x.wall(0, 0), below == 1 ? Tester.NONE : 1);
            Tester.due("wall above", x.wall(0, 1), above == 3 ? Tester.NONE : above == 2 ? 3 : 1);
        }
        OneWindow y = Tester.fort("sl5b0;ct5;ct0;c;v");
        y.see(0);
        Tester.due("behind 0 nobody, though walls of 0 come", y.tell(), 0);
    }

    /** "Who HEARS it pays what an EVENT costs to the TELLER, if it has so much BREAD (else nothing; it HEARS it all the same)." */
    private static void soMuchBread() {
        for (int bread = 0; bread <= 9; bread++) {
            OneWindow x = Tester.fort("sb4g99;cb0;cb" + bread + ";v;v");
            x.see(0);
            x.see(1);
            int paid = bread >= 8 ? 8 : bread >= 4 ? 4 : 0;
            Tester.due("both are heard", x.tell(), 2);
            Tester.due("the rest of " + bread, Tester.prisoner(x, 1, 4), bread - paid);
            Tester.due("the teller has", Tester.prisoner(x, 0, 4), paid);
            Tester.due("both are known", Tester.prisoner(x, 1, 5), 3);
        }
        OneWindow y = Tester.fort("sb0;cb0;cb0;v");
        y.see(0);
        Tester.due("for nothing", y.tell(), 1);
        Tester.due("bread of all", y.count(11), 0);
        OneWindow z = Tester.fort("sb9;cb99;cb99;cb99;cb99;cb99;cb99;cb99;v");
        z.see(0);
        z.tell();
        Tester.due("more than 99 is kept", Tester.prisoner(z, 0, 4), 135);
    }

    /** "when what they LEARNT is no less than by how many a CODE is WORN, nothing more is TOLD (the rest today, too)". */
    private static void noLessThanWorn() {
        for (int worn = 1; worn <= 13; worn++) {
            OneWindow x = Tester.fort("sg" + worn + "b0;c;c;vn4;vn5;vn3");
            x.see(0);
            x.see(1);
            x.see(2);
            int told = worn > 9 ? 3 : worn > 4 ? 2 : 1;
            int learnt = told == 3 ? 12 : told == 2 ? 9 : 4;
            Tester.due("told by " + worn, x.tell(), told);
            Tester.due("learnt", x.count(10), learnt);
            x.days(1);
            Tester.due("worn on the next day", x.tell(), learnt >= worn ? Tester.NONE : 0);
            Tester.due("told then", x.count(9), learnt >= worn ? 0 : 1);
            Tester.due("wears now", x.wears() == 0, learnt >= worn);
        }
    }

    /** "TOLD (once a DAY at most, by the TELLER)". */
    private static void onceADay() {
        OneWindow x = Tester.fort("c;c;v;v");
        Tester.due("nothing seen", x.tell(), 0);
        x.see(0);
        Tester.due("again", x.tell(), Tester.NONE);
        x.move(0, 1);
        Tester.due("nor by another one", x.tell(), Tester.NONE);
        x.code();
        Tester.due("nor by a code anew", x.tell(), Tester.NONE);
        Tester.due("nobody knows it", Tester.prisoner(x, 0, 5), 0);
        x.days(1);
        Tester.due("on the next day", x.tell(), 0);
        x.undo();
        Tester.due("undone: it was not", x.tell(), 0);
    }

    /** "A MIRROR shows it EVENTS (bits), till it is changed (0: none, at first)", "False: no such EVENTS (bits), it is so." */
    private static void mirrorsOfAllEvents() {
        for (int events = 1; events <= 6; events++) {
            OneWindow x = Tester.fort("sl1;c;c;v" + Tester.times(";v", events - 1));
            int all = (1 << events) - 1;
            Tester.due("none at first", Tester.prisoner(x, 1, 6), 0);
            Tester.due("none is so", x.mirror(1, 0), false);
            Tester.due("one more than all", x.mirror(1, all + 1), false);
            Tester.due("all of " + events, x.mirror(1, all), true);
            Tester.due("all again", x.mirror(1, all), false);
            Tester.due("beyond", x.mirror(1, all | 64), false);
            Tester.due("it is", Tester.prisoner(x, 1, 6), all);
            Tester.due("one act", x.count(15), 1);
            x.see(events - 1);
            x.tell();
            Tester.due("what it shows of what is seen", Tester.prisoner(x, 1, 5), 1 << events - 1);
            Tester.due("none", x.mirror(1, 0), true);
            x.days(1);
            x.see(0);
            x.tell();
            Tester.due("shows none", Tester.prisoner(x, 1, 5), 0);
        }
    }

    /** "LOG: EVENTS SEEN, how many were HEARD, what guards have LEARNT then (the latest 60)". */
    private static void latest60() {
        OneWindow x = Tester.fort("sg99b0;c;c;vn1");
        Tester.due("none", x.log(0, 0), Tester.NONE);
        Tester.due("its length", x.count(14), 0);
        x.see(0);
        x.tell();
        x.days(1);
        Tester.due("one", x.log(0, 2), 1);
        Tester.due("no second", x.log(1, 2), Tester.NONE);
        x.days(58);
        Tester.due("59", x.count(14), 59);
        Tester.due("the first is the 59th", x.log(58, 1), 1);
        Tester.due("no 60th", x.log(59, 1), Tester.NONE);
        x.days(1);
        Tester.due("60", x.count(14), 60);
        Tester.due("the first is the 60th", x.log(59, 1), 1);
        Tester.due("no 61st", x.log(60, 1), Tester.NONE);
        x.days(1);
        Tester.due("60 still", x.count(14), 60);
        Tester.due("the first is gone", x.log(59, 1), 0);
        Tester.due("and is no 61st", x.log(60, 1), Tester.NONE);
        x.days(60);
        Tester.due("60 at once", x.count(14), 60);
        Tester.due("learnt stays", x.log(59, 2), 1);
    }

    /** "DAYS end (1 .. 60): the DAY. NONE: no FORT, out of bounds, beyond 9,999." */
    private static void daysAtOnce() {
        OneWindow x = Tester.fort("c;c;v");
        Tester.due("0", x.days(0), Tester.NONE);
        Tester.due("61", x.days(61), Tester.NONE);
        Tester.due("1", x.days(1), 1);
        Tester.due("60", x.days(60), 61);
        Tester.due("-1", x.days(-1), Tester.NONE);
        Tester.due("the day", x.count(6), 61);
    }

    private static OneWindow day9960(String fort) {
        OneWindow x = Tester.fort(fort);
        for (int i = 0; i < 166; i++) {
            x.days(60);
        }
        Tester.due("9960", x.count(6), 9960);
        return x;
    }

    /** "the DAY is one later (0 at first; 9,999 at most: none ends then)". */
    private static void dayAt9999() {
        OneWindow x = day9960("sl60g99;c;c;vn1p10");
        Tester.due("40 more", x.days(40), Tester.NONE);
        Tester.due("40 years", x.years(40, 1L), Tester.NONE);
        Tester.due("no act", x.count(6), 9960);
        Tester.due("39 years", x.years(39, 1L), 9999);
        Tester.due("days", x.days(1), Tester.NONE);
        Tester.due("years", x.years(1, 1L), Tester.NONE);
        Tester.text(x, Tester.PLAN, "s0;e;c");
        Tester.due("no e of a plan", x.run(0, 0), 1);
        Tester.due("nor done", x.perform(0), 1);
        Tester.due("seen on the last day", x.count(8), 1);
        Tester.due("told on the last day", x.tell(), 1);
        Tester.due("the day", x.count(6), 9999);
        Tester.due("60 logged", x.count(14), 60);
        Tester.hold(x, "y:d-9980");
        Tester.due("by the day", x.far(0, 1), 41);
        Tester.due("image", x.image(), 9999);
        x.undo();
        x.undo();
        x.undo();
        Tester.due("9998", x.count(6), 9998);
        Tester.due("by the day ahead", x.far(0, 1), 42);
        Tester.due("all of the plan", x.perform(0), 3);
        Tester.due("back", x.back(), 9999);
        Tester.due("none ends", x.days(1), Tester.NONE);
        OneWindow y = day9960("c;c;v");
        Tester.due("39 days", y.days(39), 9999);
        OneWindow z = day9960("c;c;v");
        Tester.due("38 days", z.days(38), 9998);
        Tester.due("two", z.days(2), Tester.NONE);
        Tester.text(z, Tester.PLAN, "e;e");
        Tester.due("one of two", z.run(0, 0), 1);
        Tester.due("one of two is done", z.perform(0), 1);
        Tester.due("9999", z.count(6), 9999);
    }

    /** "a CODE anew (2 BREAD from who has most, of several the lowest; nobody has so much: it can't be)". */
    private static void twoBread() {
        Tester.due("1 at most", Tester.fort("cb1;cb0;cb1;v").code(), Tester.NONE);
        Tester.due("none", Tester.fort("cb0;cb0;v").code(), Tester.NONE);
        OneWindow x = Tester.fort("cb1;cb2;cb2;v");
        Tester.due("two: the lower one", x.code(), 1);
        Tester.due("has none", Tester.prisoner(x, 1, 4), 0);
        Tester.due("then the other", x.code(), 2);
        Tester.due("then nobody", x.code(), Tester.NONE);
        Tester.due("two acts", x.count(15), 2);
        OneWindow y = Tester.fort("cb3;cb4;v");
        Tester.due("who has most", y.code(), 1);
        Tester.due("who has most then", y.code(), 0);
        Tester.due("who has most at last", y.code(), 1);
        Tester.due("one is left", y.count(11), 1);
        OneWindow z = Tester.fort("c;c;v");
        Tester.due("nothing learnt: it can be", z.code(), 0);
    }

    /** "All these (each DAY) are ACTS: the latest 40 can be UNDONE one by one", "NONE: none." */
    private static void latest40() {
        for (int acts : new int[] {1, 39, 40, 41, 79, 80, 81}) {
            OneWindow x = Tester.fort("c;c;c;v");
            for (int i = 0; i < acts; i++) {
                x.move(i % 2, 2);
            }
            int kept = Math.min(acts, 40);
            Tester.due("kept of " + acts, x.count(15), kept);
            for (int left = kept - 1; left >= 0; left--) {
                Tester.due("undone of " + acts, x.undo(), left);
            }
            Tester.due("none more of " + acts, x.undo(), Tester.NONE);
            OneWindow y = Tester.fort("c;c;c;v");
            for (int i = 0; i < acts - kept; i++) {
                y.move(i % 2, 2);
            }
            for (int cell = 0; cell < 3; cell++) {
                Tester.due("as it was 40 acts ago", x.cell(cell, 1), y.cell(cell, 1));
            }
        }
        OneWindow z = Tester.fort("c;c;v");
        Tester.due("none at first", z.undo(), Tester.NONE);
    }

    /** "(each DAY) are ACTS", "Each DAY is one ACT." */
    private static void eachDayIsAnAct() {
        OneWindow x = Tester.fort("c;c;vp10");
        x.days(39);
        Tester.due("39", x.count(15), 39);
        x.years(1, 5L);
        Tester.due("40", x.count(15), 40);
        x.years(60, 5L);
        Tester.due("40 still", x.count(15), 40);
        for (int i = 0; i < 40; i++) {
            x.undo();
        }
        Tester.due("60 days behind 40, less 40", x.count(6), 60);
        Tester.due("its log", x.log(0, 0), 1);
        Tester.due("the first that was told", x.log(20, 0), 1);
        Tester.due("ahead of it", x.log(21, 0), 0);
    }

    /** "the latest 40 can be UNDONE one by one (LOG, too)": what comes behind takes the place of what was undone. */
    private static void undoneAndGoneOn() {
        OneWindow x = Tester.fort("sg99b0;c;c;vn1;vn1");
        x.days(60);
        x.see(0);
        x.days(1);
        Tester.due("seen", x.log(0, 0), 1);
        x.undo();
        Tester.due("not logged", x.log(0, 0), 0);
        Tester.due("60 of them", x.count(14), 60);
        Tester.due("seen today again", x.count(8), 1);
        x.see(1);
        x.days(1);
        Tester.due("both", x.log(0, 0), 3);
        x.undo();
        x.undo();
        x.undo();
        Tester.due("nothing is seen", x.count(8), 0);
        x.days(1);
        Tester.due("none of them", x.log(0, 0), 0);
        Tester.due("the day", x.count(6), 61);
    }

    /** "YEARS by a seed: n (1 .. 60) DAYS", "NONE likewise." */
    private static void yearsAtOnce() {
        OneWindow x = Tester.fort("c;c;v");
        Tester.due("0", x.years(0, 1L), Tester.NONE);
        Tester.due("61", x.years(61, 1L), Tester.NONE);
        Tester.due("-1", x.years(-1, 1L), Tester.NONE);
        Tester.due("1", x.years(1, 1L), 1);
        Tester.due("60", x.years(60, 1L), 61);
        Tester.due("40 acts", x.count(15), 40);
    }

    /** "a draw of 10 for each EVENT that is not SEEN, by numbers: below p: SEEN" with p 0 and 10. */
    private static void drawsOfTen() {
        for (long seed = 0; seed < 20; seed++) {
            OneWindow x = Tester.fort("sb0g99;c;c;vn1p0;vn1p10");
            x.years(20, seed);
            for (int i = 0; i < 20; i++) {
                Tester.due("never and always", x.log(i, 0), 2);
            }
            Tester.due("told each day", x.count(10), 20);
        }
    }

    /** "(64 bits, going round); a draw of m: (x shifted right by 33, without sign) modulo m" for a day of one event. */
    private static void goingRound() {
        for (long seed : new long[] {Long.MIN_VALUE, Long.MAX_VALUE, -1L, 0L, 1L, 1L << 33, -1L << 33, 0x7fffffffL}) {
            java.math.BigInteger round = java.math.BigInteger.ONE.shiftLeft(64);
            java.math.BigInteger at = java.math.BigInteger.valueOf(seed).mod(round);
            java.math.BigInteger times = new java.math.BigInteger("6364136223846793005");
            java.math.BigInteger more = new java.math.BigInteger("1442695040888963407");
            at = at.multiply(times).add(more).mod(round);
            int draw = at.shiftRight(33).mod(java.math.BigInteger.TEN).intValue();
            for (int p = 0; p <= 10; p++) {
                OneWindow x = Tester.fort("c;c;vp" + p);
                x.years(1, seed);
                Tester.due("seed " + seed + " by " + p, x.log(0, 0), draw < p ? 1 : 0);
            }
        }
    }

    /** "GUARDS (0 .. 9; 0 at first)", "False: out of bounds, it is so." */
    private static void guardsOfTen() {
        OneWindow x = Tester.fort("c;c;vp0");
        Tester.due("0 at first", x.count(12), 0);
        Tester.due("0 is so", x.guards(0), false);
        for (int v = 1; v <= 9; v++) {
            Tester.due("guards " + v, x.guards(v), true);
            Tester.due("it is so " + v, x.guards(v), false);
        }
        Tester.due("10", x.guards(10), false);
        Tester.due("-1", x.guards(-1), false);
        Tester.due("9 still", x.count(12), 9);
        int moves = 0;
        for (int seed = 0; seed < 40; seed++) {
            OneWindow y = Tester.fort("c;c;vp0");
            y.years(1, seed);
            Tester.due("with 0 nobody is moved", y.count(7), 0);
            OneWindow z = Tester.fort("c;c;vp0");
            z.guards(9);
            z.years(1, seed);
            moves += z.count(7);
        }
        Tester.due("with 9 mostly", moves > 25, true);
    }

    /** "the TELLER and who has most MERIT of all others (of several the lowest) change CELLS". */
    private static void mostMeritOfOthers() {
        int[][] cases = {{9, 1, 5, 5}, {1, 9, 5, 5}, {5, 9, 5, 1}, {1, 9, 5, 9}, {0, 0, 0, 0}, {0, 9, 0, 1}};
        int[] moved = {0, 2, 0, 3, 0, 3};
        for (int i = 0; i < cases.length; i++) {
            int[] m = cases[i];
            int moves = 0;
            for (int seed = 0; seed < 10; seed++) {
                OneWindow x = Tester.fort("sw1;cm" + m[0] + ";cm" + m[1] + ";cm" + m[2] + ";cm" + m[3] + ";vp0");
                x.guards(9);
                x.years(1, seed);
                if (x.count(7) != 1) {
                    moves++;
                    Tester.due("teller of case " + i, x.count(7), moved[i]);
                    Tester.due("cell of 1 in case " + i, Tester.prisoner(x, 1, 0), moved[i]);
                }
            }
            Tester.due("moved in case " + i, moves > 0, true);
        }
    }

    /** The most that a FORT holds, seven and six: nothing of one PRISONER runs into another's, or into what is SEEN. */
    private static void sevenAndSix() {
        OneWindow x = Tester.fort("sw3l60b1g99" + Tester.times(";ct1b2", 6) + ";ct1b9" + Tester.times(";vn1", 6));
        Tester.due("rich", x.rich(), 6);
        for (int i = 0; i < 7; i++) {
            Tester.due("mirror", x.mirror(i, 63 - i), true);
        }
        Tester.due("rich as before", x.rich(), 6);
        Tester.due("bread of all", x.count(11), 21);
        Tester.due("nothing seen", x.count(8), 0);
        for (int i = 0; i < 7; i++) {
            Tester.due("bread " + i, Tester.prisoner(x, i, 4), i == 6 ? 9 : 2);
            Tester.due("nothing known " + i, Tester.prisoner(x, i, 5), 0);
        }
        x.see(5);
        x.see(0);
        x.see(1);
        Tester.due("heard by six", x.tell(), 18);
        Tester.due("learnt", x.count(10), 3);
        x.see(4);
        for (int i = 0; i < 7; i++) {
            Tester.due("mirror " + i + " as it was", Tester.prisoner(x, i, 6), 63 - i);
            Tester.due("knows " + i, Tester.prisoner(x, i, 5), 35);
            Tester.due("bread behind it " + i, Tester.prisoner(x, i, 4), i == 3 ? 15 : i == 6 ? 6 : 0);
        }
        Tester.due("seen", x.count(8), 51);
        Tester.due("code", x.code(), 3);
        x.move(0, 6);
        x.days(1);
        Tester.due("nothing seen behind it", x.count(8), 0);
        for (int i = 0; i < 7; i++) {
            Tester.due("mirror " + i + " stays", Tester.prisoner(x, i, 6), 63 - i);
            Tester.due("knows nothing " + i, Tester.prisoner(x, i, 5), 0);
            Tester.due("sits", x.cell(i, 1), i == 0 ? 6 : i == 6 ? 0 : i);
        }
        Tester.due("most", x.most(), 0);
        Tester.due("heard", x.log(0, 1), 18);
    }

    /** "An IMAGE (instead of the one ahead): the DAY. NONE: no FORT.", "BACK: the DAY. NONE: no IMAGE of this FORT." */
    private static void imageOfThisFort() {
        OneWindow x = new OneWindow();
        Tester.due("no fort", x.image(), Tester.NONE);
        Tester.due("no image", x.back(), Tester.NONE);
        Tester.text(x, Tester.FORT, "c;c;v");
        Tester.due("no image of the fort", x.back(), Tester.NONE);
        Tester.due("image", x.image(), 0);
        x.days(3);
        Tester.due("a second one", x.image(), 3);
        x.days(1);
        Tester.due("back to the second", x.back(), 3);
        Tester.due("no act", x.undo(), Tester.NONE);
        x.days(1);
        Tester.due("an act", x.undo(), 0);
        Tester.due("back once more", x.back(), 3);
        Tester.hold(x, "y:1");
        Tester.text(x, Tester.PLAN, "t");
        x.guards(5);
        x.said(0, 0, true);
        Tester.due("back behind these", x.back(), 3);
        int[] kept = {1, 1, 0, 5, 1};
        int[] asked = {2, 3, 5, 12, 13};
        for (int i = 0; i < asked.length; i++) {
            Tester.due("no part of an image: count " + asked[i], x.count(asked[i]), kept[i]);
        }
        Tester.due("no fort by a wrong text", Tester.text(x, Tester.FORT, "c;c"), Tester.NONE);
        Tester.due("the image stays", x.back(), 3);
        Tester.due("another fort", Tester.text(x, Tester.FORT, "c;c;v"), 2);
        Tester.due("no image of this one", x.back(), Tester.NONE);
        Tester.due("day 0", x.count(6), 0);
    }

    /** "An IMAGE keeps .. the LOG; BACK: they are so again (no ACT can be UNDONE then)", when all days were lived over. */
    private static void imageKeepsTheLog() {
        OneWindow x = Tester.fort("sg99b0;c;c;vn1p10;vn1p0");
        x.years(59, 1L);
        x.see(1);
        x.days(1);
        x.image();
        x.days(60);
        x.days(60);
        Tester.due("nothing was seen lately", x.log(59, 0), 0);
        Tester.due("back", x.back(), 60);
        Tester.due("60", x.count(14), 60);
        Tester.due("the latest", x.log(0, 0), 2);
        Tester.due("the one ahead", x.log(1, 0), 1);
        Tester.due("the first", x.log(59, 2), 1);
        Tester.due("no 61st", x.log(60, 0), Tester.NONE);
        x.days(1);
        Tester.due("the second is the 60th", x.log(59, 2), 2);
        x.undo();
        Tester.due("undone: the first again", x.log(59, 2), 1);
        Tester.due("no more", x.undo(), Tester.NONE);
    }

    /** "0 CELLS .. 15 ACTS that can be UNDONE. HIDDEN for others." */
    private static void countsAtTheirBounds() {
        OneWindow x = Tester.fort(Tester.times("cb99;", 7) + "v;v;v;v;v;v");
        Tester.due("cells", x.count(0), 7);
        Tester.due("events", x.count(1), 6);
        Tester.due("no law holds", x.count(5), Tester.NONE);
        Tester.due("bread of all", x.count(11), 693);
        for (int event = 0; event < 6; event++) {
            x.see(event);
        }
        Tester.due("all seen", x.count(8), 63);
        Tester.due("-1", x.count(-1), Tester.HIDDEN);
        Tester.due("15", x.count(15), 6);
        Tester.due("16", x.count(16), Tester.HIDDEN);
        OneWindow y = new OneWindow();
        Tester.due("no teller", y.count(7), Tester.NONE);
        Tester.due("no day", y.count(6), 0);
        Tester.due("new: 16", y.count(16), Tester.HIDDEN);
    }

    /** "An object is used for at most 512 calls after it has been made": all of them are answered as the first are. */
    private static void calls512() {
        OneWindow x = Tester.fort("c;c;v");
        int calls = 3;
        while (calls < 508) {
            Tester.due("see", x.see(0), 1);
            Tester.due("undo", x.undo(), 0);
            calls += 2;
        }
        Tester.due("the 510th or so", x.see(0), 1);
        Tester.due("then", x.tell(), 1);
        Tester.due("the last", x.count(15), 2);
        OneWindow y = Tester.fort("c;c;vp10");
        for (int i = 0; i < 166; i++) {
            y.years(60, i);
        }
        for (int i = 0; i < 340; i++) {
            y.move(0, 1);
        }
        Tester.due("the day", y.count(6), 9960);
        Tester.due("the teller", y.count(7), 0);
    }
}
