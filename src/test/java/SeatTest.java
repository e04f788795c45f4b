/** Promises 26, 27, 41 and 45 to 47: seat, best, swap, price, buys, rests. */
public final class SeatTest {
    private static final String FIVE =
            "sw2l20g10b2;ct3m4b1;ct5m9x0b7;ct2m2x1;ct8m9h2b0;ct1m0h10b9;vn4p3;vn7p10;vn1p0";

    public static void main(String[] args) {
        seats();
        seatsByLaw();
        swaps();
        prices();
        buys();
        rests();
        wrongInputs();
        Tester.end();
    }

    private static OneWindow allSeen() {
        OneWindow x = Tester.fort(FIVE);
        x.see(0);
        x.see(1);
        x.see(2);
        return x;
    }

    private static void seats() {
        OneWindow x = Tester.fort(FIVE);
        Tester.due("nothing seen", x.seat(0), 0);
        Tester.due("best of nothing", x.best(), 0);
        x = allSeen();
        int[] want = {16, 8, 8, 16, 10};
        for (int i = 0; i < 5; i++) {
            Tester.due("seat " + i, x.seat(i), want[i]);
        }
        Tester.due("best", x.best(), 0);
        Tester.due("nothing was told", x.count(9), 0);
        Tester.due("nothing learnt", x.count(10), 0);
        Tester.due("nothing paid", Tester.prisoner(x, 1, 4), 7);
        x.tell();
        // bread is 1 3 13 0 5 now
        int[] again = {2 + 6 + 4, 0 + 4 + 4, 2 + 4, 2 + 6 + 4, 2 + 6};
        for (int i = 0; i < 5; i++) {
            Tester.due("told already, seat " + i, x.seat(i), again[i]);
        }
        Tester.due("best then", x.best(), 0);
        x.move(0, 2);
        Tester.due("as 0 sits there", x.seat(0), 12);
        Tester.due("changed with who sits there now", x.seat(3), 12);
    }

    private static void seatsByLaw() {
        OneWindow x = Tester.fort("sl10g1b1;cm9b9;cm1b9;cm4b9;vn5;vn3");
        x.see(0);
        x.see(1);
        Tester.hold(x, "y:m+g");
        // 0 tells: event 0: 10-1-4 both; learnt 5: 10-6-9 one
        Tester.due("guards learn", x.seat(0), 3);
        // 1 tells: event 0: cell 1 has 0: 10-9, then 1-4 none; event 1: 10-14 none
        Tester.due("merit by seats", x.seat(1), 1);
        Tester.due("2: 10-1, 9-9; 10-6, 4-14", x.seat(2), 2);
        Tester.due("best", x.best(), 0);
    }

    private static void swaps() {
        OneWindow x = allSeen();
        Tester.due("0 and 2", x.swap(0), 2);
        Tester.due("how much", x.swap(1), 16);
        OneWindow y = Tester.fort("sl10g1b1;cm9b9;cm1b9;cm4b9;vn5");
        y.see(0);
        Tester.hold(y, "y:m*2");
        // by the teller 0: 10-2, 8-8: one; 1 and 2 changed: 10-8, 2-2: one; 2 tells: 10-2, 8-18: one; 1 tells: none
        Tester.due("1 and 2 as well as 0 and 2: the least", y.swap(0), 2);
        Tester.due("one", y.swap(1), 1);
        OneWindow z = Tester.fort("sb1;c;c;v");
        Tester.due("nothing seen: 0 and 1", z.swap(0), 1);
        Tester.due("nothing", z.swap(1), 0);
        OneWindow w = Tester.fort("sl10b1;ct1;ct2x0m2;cx0m4;v");
        w.see(0);
        Tester.hold(w, "y:m*t");
        // 1 and 2 tell nothing; 0 now: 10-2, 8-8; with 1 and 2 changed: 10-4, 6-4
        Tester.due("two that are not the teller", w.swap(0), 12);
        Tester.due("both pay", w.swap(1), 2);
    }

    private static void prices() {
        OneWindow x = allSeen();
        Tester.due("7", x.price(0), 7);
        Tester.due("14", x.price(1), 14);
        OneWindow y = Tester.fort("c;c;v");
        Tester.due("nothing seen", y.price(0), 0);
        Tester.due("nothing", y.price(1), 0);
        y = Tester.fort("c;cb99;v");
        y.see(0);
        Tester.due("9", y.price(0), 9);
        Tester.due("9 in all", y.price(1), 9);
        Tester.due("the rule stays", y.rule(3), 1);
    }

    private static void buys() {
        OneWindow x = allSeen();
        Tester.due("neither", x.buys(0, 1, 0, 0), 0);
        Tester.due("the other alone", x.buys(0, 1, 0, 1), 0);
        Tester.due("two events for one each", x.buys(0, 1, 1, 0), 2);
        Tester.due("both", x.buys(0, 1, 1, 1), 0);
        Tester.due("without bread", x.buys(3, 4, 1, 0), 2);
        x.move(2, 4);
        Tester.due("three events by 4, the code holds", x.buys(2, 0, 1, 0), 3);
        OneWindow y = Tester.fort("sl10b9;ct4;ct5;ct1;ct3;v;v");
        y.see(1);
        Tester.due("dear", y.buys(1, 2, 1, 0), -6);
        Tester.due("dearer", y.buys(1, 2, 1, 1), -7);
        Tester.due("3 hears nothing", y.buys(3, 1, 1, 1), 0);
        Tester.due("1 with 3", y.buys(1, 3, 1, 1), -6);
        y.tell();
        Tester.due("told already", y.buys(1, 2, 1, 0), -6);
    }

    private static void rests() {
        OneWindow x = allSeen();
        Tester.due("three", x.rests(0, 1, -1), 3);
        int[] want = {1, 10, 11, -1};
        for (int i = 0; i < 4; i++) {
            Tester.due("rest " + i, x.rests(0, 1, i), want[i]);
        }
        Tester.due("i -2", x.rests(0, 1, -2), -1);
        OneWindow y = Tester.fort("sl10b9;ct4;ct5;ct1;ct3;v;v");
        Tester.due("nothing seen: all four", y.rests(1, 2, -1), 4);
        Tester.due("the second", y.rests(1, 2, 1), 1);
        y.see(0);
        Tester.due("too dear: one", y.rests(1, 2, -1), 1);
        Tester.due("neither buys", y.rests(1, 2, 0), 0);
        // 3 hears nothing: it may buy or not, 1 never does
        Tester.due("two", y.rests(3, 1, -1), 2);
        Tester.due("neither", y.rests(3, 1, 0), 0);
        Tester.due("3 alone", y.rests(3, 1, 1), 10);
        Tester.due("the other way round", y.rests(1, 3, 1), 1);
    }

    private static void wrongInputs() {
        OneWindow x = allSeen();
        Tester.due("seat 5", x.seat(5), -1);
        Tester.due("seat -1", x.seat(-1), -1);
        Tester.due("swap 2", x.swap(2), -1);
        Tester.due("swap -1", x.swap(-1), -1);
        Tester.due("price 2", x.price(2), -1);
        Tester.due("price -1", x.price(-1), -1);
        int[][] pairs = {{2, 0}, {0, 2}, {1, 1}, {5, 0}, {0, 5}, {-1, 0}, {0, -1}};
        for (int[] pair : pairs) {
            Tester.due("buys " + pair[0] + " " + pair[1], x.buys(pair[0], pair[1], 1, 0), Tester.HIDDEN);
            Tester.due("rests " + pair[0] + " " + pair[1], x.rests(pair[0], pair[1], -1), -1);
        }
        Tester.due("x 2", x.buys(0, 1, 2, 0), Tester.HIDDEN);
        Tester.due("x -1", x.buys(0, 1, -1, 0), Tester.HIDDEN);
        Tester.due("y 2", x.buys(0, 1, 0, 2), Tester.HIDDEN);
        Tester.due("y -1", x.buys(0, 1, 0, -1), Tester.HIDDEN);
    }
}
