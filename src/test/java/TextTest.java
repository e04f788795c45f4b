/** Promises 1 to 5: a new object, feed, end, fault, text. */
public final class TextTest {
    public static void main(String[] args) {
        newObject();
        tape();
        fortFaults();
        fortLimits();
        lawFaults();
        planFaults();
        texts();
        newFort();
        Tester.end();
    }

    private static void newObject() {
        OneWindow x = new OneWindow();
        for (int what = 0; what <= 15; what++) {
            int want = what == 5 || what == 7 ? Tester.NONE : 0;
            Tester.due("new, count " + what, x.count(what), want);
        }
        Tester.due("new, back", x.back(), Tester.NONE);
        Tester.due("new, prisoner", Tester.prisoner(x, 0, 0), Tester.THROWS);
        Tester.due("new, law 0", x.law(0), false);
        Tester.due("new, law NONE", x.law(-1), true);
    }

    private static void tape() {
        OneWindow x = new OneWindow();
        Tester.due("highest byte first", x.feed(0x633b633b, 0x76000000, 0, 0, 0), 5);
        Tester.due("a fort", x.fault(0), Tester.NONE);
        Tester.due("bytes of 0 are left out", x.feed(0x006e0000, 0, 0x00000039, 0, 0), 7);
        Tester.due("c;c;vn9", x.fault(0), Tester.NONE);
        Tester.due("all 0", x.feed(0, 0, 0, 0, 0), 7);
        Tester.due("end beyond", x.end(8), false);
        Tester.due("end below 0", x.end(-1), false);
        Tester.due("end least int", x.end(Integer.MIN_VALUE), false);
        Tester.due("end as it is", x.end(7), true);
        Tester.due("end 6", x.end(6), true);
        Tester.due("c;c;vn ends too early", x.fault(0), 6);
        Tester.due("end stays", x.end(7), false);
        Tester.due("count", x.count(4), 6);
        x.end(0);
        for (int i = 1; i <= 11; i++) {
            Tester.due("twenty more", x.feed(-1, -1, -1, -1, -1), 20 * i);
        }
        x.feed(0x63636363, 0x63636363, 0x63636363, 0x63636363, 0x00636363);
        Tester.due("239", x.count(4), 239);
        Tester.due("241 are too many", x.feed(0x01000000, 0, 0, 0, 2), Tester.NONE);
        Tester.due("as it was", x.count(4), 239);
        Tester.due("240", x.feed(0, 0, 0, 0, 0x00000200), 240);
        Tester.due("one more in the third", x.feed(0, 0, 1, 0, 0), Tester.NONE);
        Tester.due("one more in the fourth", x.feed(0, 0, 0, 1, 0), Tester.NONE);
        Tester.due("no byte more", x.feed(0, 0, 0, 0, 0), 240);
        Tester.due("241", x.feed(0, 1, 0, 0, 0), Tester.NONE);
        Tester.due("a byte of 255 is wrong", x.fault(0), 0);
    }

    private static void fort(String text, int want) {
        OneWindow x = new OneWindow();
        Tester.due("fort " + text, Tester.fault(x, Tester.FORT, text), want);
        Tester.due("tape stays", x.count(4), text.length());
    }

    private static void fortFaults() {
        fort("c;c;v", -1);
        fort("v;c;s;c", -1);
        fort("", 0);
        fort("   ", 3);
        fort("c;v", 3);
        fort("c;c", 3);
        fort("c;c;v;", 6);
        fort("c;;c;v", 2);
        fort(";c;c;v", 0);
        fort("c;c;v x", 6);
        fort("c;c;v,", 5);
        fort("C;c;v", 0);
        fort("c 1;c;v", 2);
        fort("c;c;vn", 6);
        fort("c;c;vn;", 6);
        fort("c;c;v n 3 p 4 ", -1);
        fort("c;c;vn3p4n", 9);
        fort("c;c;vn3 4", 8);
        fort("c;c;vn1 ;s;s", 11);
        fort("s;c;c;v;s", 8);
        fort("sw2;c;c;v", 9);
        fort("sw2;c;c;v  ", 11);
        fort("sw2;c;c;v;c", -1);
        fort("v;sw1;c;c", -1);
        fort("c;c;v" + (char) 200, 5);
    }

    private static void fortLimits() {
        String[] letters = {"sw", "sl", "sg", "sb", "ct", "cm", "ch", "cx", "cb", "vn", "vp"};
        int[] least = {0, 1, 1, 0, 0, 0, 0, 0, 0, 1, 0};
        int[] most = {6, 60, 99, 9, 30, 9, 10, 6, 99, 9, 10};
        String rest = ";c;c;c;c;c;c;v";
        for (int i = 0; i < letters.length; i++) {
            String more = rest + (letters[i].charAt(0) == 'c' ? "" : ";c");
            for (int number = 0; number < 100; number++) {
                boolean holds = number >= least[i] && number <= most[i];
                String one = letters[i] + number + more;
                fort(one, holds ? -1 : number < 10 ? 2 : 3);
                if (number < 10) {
                    fort(letters[i] + "0" + number + more, holds ? -1 : 3);
                }
            }
            fort(letters[i] + "999" + more, 4);
            fort(letters[i] + "000" + more, 4);
            fort(letters[i] + more, 2);
        }
        fort("sw123", 4);
        fort("sw71;c", 3);
        fort("cw1", 1);
        fort("sn1", 1);
        fort("vt1", 1);
        fort(Tester.times("c;", 7) + "v", -1);
        fort(Tester.times("c;", 8) + "v", 14);
        fort(Tester.times("v;", 6) + "c;c", -1);
        fort(Tester.times("v;", 7) + "c;c", 12);
        fort("sw6;v;" + Tester.times("c;", 6) + "c", -1);
        fort("sw6;v;" + Tester.times("c;", 5) + "c", 17);
        fort("cb1b1", 3);
    }

    private static void law(String text, int want) {
        OneWindow x = new OneWindow();
        Tester.due("law " + text, Tester.fault(x, Tester.LAW, text), want);
    }

    private static void lawFaults() {
        law("y:1", -1);
        law(" y : 1 ; y : t ", -1);
        law("", 0);
        law("y", 1);
        law("y:", 2);
        law("y:1;", 4);
        law("y1", 1);
        law("z:1", 0);
        law("y:1;;", 4);
        law("y:9999", -1);
        law("y:99990", 6);
        law("y:0000", -1);
        law("y:1 2", 4);
        law("y:t n", 4);
        law("y:t+", 4);
        law("y:-1", 2);
        law("y:t+-1", 4);
        law("y:t+n-m*k/d+g", -1);
        law("y:x", 2);
        law("y:[t]", -1);
        law("y:[t", 4);
        law("y:[t)", 4);
        law("y:[]", 3);
        law("y:[t=1]?1", 4);
        law("y:t=1?2", -1);
        law("y:t=1", 5);
        law("y:t=1;y:2", 5);
        law("y:t=1?", 6);
        law("y:t=1?n=2", 7);
        law("y:t=1?n?2", 7);
        law("y:t?1", 3);
        law("y:t=n=m?1", 5);
        law("y:t=1&n?1", 7);
        law("y:t=1&n<2|m>3?1", -1);
        law("y:t=1&&n<2?1", 6);
        law("y:t&n=1?1", 3);
        law("y:(t=1)?1", -1);
        law("y:(t)=1?1", 4);
        law("y:(t=1)", 7);
        law("y:(t=1)+1", 7);
        law("y:(t=1?1", 6);
        law("y:(t=1|!n=2)&m=3?1", -1);
        law("y:t=1|(n=2)?1", -1);
        law("y:t=(n)?1", 4);
        law("y:t+!1", 4);
        law("y:!t?1", 4);
        law("y:!t=1?1", -1);
        law("y:!!t=1?1", -1);
        law("y:!t=1", 6);
        law("y:!(t=1)?1", -1);
        law("y:t=1?!n", 6);
        law("y:t=1?(n)", 6);
        law("y:[[[[[[t]]]]]]", -1);
        law("y:[[[[[[[t]]]]]]]", 8);
        law("y:((((((t=1))))))?1", -1);
        law("y:(((((((t=1))))))?1", 8);
        law("y:!(![(t", 6);
        law("y:!(!([[t]]=1))?1", -1);
        law("y:!(!(![t]=1))?1", -1);
        law("y:!(!(![[t]]=1))?1", 8);
        law("y:[t]+[[[[[[n]]]]]]", -1);
        law("y:[t]+[[[[[[[n]]]]]]]", 12);
        law("y:t=1?[[[[[[n]]]]]]", -1);
        law("y:!t=1&[[[[[[n]]]]]]=1?1", -1);
        law("y:!t=[[[[[[n]]]]]]?1", 10);
        law("y:t=1?" + Tester.times("[", 7), 12);
        law(Tester.times("y:1;", 59) + "y:1", -1);
        law("y:1" + Tester.times("+1", 118) + " ", -1);
    }

    private static void plan(String text, int want) {
        OneWindow x = new OneWindow();
        Tester.due("plan " + text, Tester.fault(x, Tester.PLAN, text), want);
    }

    private static void planFaults() {
        plan("", 0);
        plan(" ", 1);
        plan("s0", -1);
        plan("s9;m99;t;c;e", -1);
        plan(" s 1 ; m 2 3 ", -1);
        plan("s", 1);
        plan("s;", 1);
        plan("s12", 2);
        plan("m1", 2);
        plan("m1;", 2);
        plan("m123", 3);
        plan("t1", 1);
        plan("e;", 2);
        plan("e;;", 2);
        plan("x", 0);
        plan("v1", 0);
        plan("t c", 2);
        plan(Tester.times("t;", 15) + "t", -1);
        plan(Tester.times("t;", 16), 31);
        plan(Tester.times("m12;", 15) + "m12 ;e", 64);
    }

    private static void texts() {
        OneWindow x = new OneWindow();
        Tester.due("fault -1", x.fault(-1), -2);
        Tester.due("fault 3", x.fault(3), -2);
        Tester.put(x, "y:1");
        Tester.due("text -1", x.text(-1), Tester.NONE);
        Tester.due("text 3", x.text(3), Tester.NONE);
        Tester.due("no fort", x.text(0), Tester.NONE);
        Tester.due("the tape stays", x.count(4), 3);
        for (int i = 0; i < 4; i++) {
            Tester.due("law", Tester.text(x, Tester.LAW, "y:" + i), i);
            Tester.due("the tape is empty", x.count(4), 0);
            Tester.due("plan", Tester.text(x, Tester.PLAN, "s" + i), i);
            Tester.due("laws", x.count(2), i + 1);
            Tester.due("plans", x.count(3), i + 1);
        }
        Tester.due("a fifth law", Tester.text(x, Tester.LAW, "y:9"), Tester.NONE);
        Tester.due("is no fault", x.fault(1), Tester.NONE);
        Tester.due("its tape stays", x.count(4), 3);
        Tester.due("a fifth plan", Tester.text(x, Tester.PLAN, "t"), Tester.NONE);
        Tester.due("is no fault", x.fault(2), Tester.NONE);
        Tester.due("the fourth plan stays", x.step(3, 0, 1), 3);
        Tester.due("no fort by laws", x.count(0), 0);
        Tester.due("fort", Tester.text(x, Tester.FORT, "c;c;c;v"), 3);
        Tester.due("the tape is empty", x.count(4), 0);
        Tester.due("empty", x.text(0), Tester.NONE);
        Tester.due("the fort stays", x.count(0), 3);
    }

    private static void newFort() {
        OneWindow x = Tester.fort("sw1g9;cb9;c;c;v;v");
        Tester.hold(x, "y:1");
        Tester.text(x, Tester.PLAN, "t");
        x.guards(4);
        x.see(1);
        x.mirror(2, 3);
        x.tell();
        x.move(0, 1);
        x.image();
        x.days(2);
        x.see(0);
        x.said(0, 0, true);
        Tester.due("a wrong one", Tester.text(x, Tester.FORT, "c;v"), Tester.NONE);
        Tester.due("changes nothing", x.count(6), 2);
        Tester.due("nor seats", x.count(7), 0);
        Tester.due("another one", Tester.text(x, Tester.FORT, "c;c;v"), 2);
        int[] want = {2, 1, 1, 1, 0, 0, 0, 0, 0, 0, 0, 10, 4, 0, 0, 0, Tester.HIDDEN};
        for (int what = 0; what < want.length; what++) {
            Tester.due("new fort, count " + what, x.count(what), want[what]);
        }
        Tester.due("no undo", x.undo(), Tester.NONE);
        Tester.due("no image", x.back(), Tester.NONE);
        Tester.due("no log", x.log(0, 0), Tester.NONE);
        Tester.due("no third", Tester.prisoner(x, 2, 0), Tester.THROWS);
        Tester.due("usual rules", x.rule(2), 40);
        Tester.due("no mirror", Tester.prisoner(x, 1, 6), 0);
        Tester.due("nothing known", Tester.prisoner(x, 1, 5), 0);
        Tester.due("the law holds", x.far(0, 1), 19);
    }
}
