import java.util.Arrays;
import java.util.NoSuchElementException;

/**
 * A fort with one window: what is seen there, knocked through walls, paid in bread and learnt by guards.
 * All rows are made once, in the constructor; no call makes an object.
 */
public final class OneWindow {
    public static final int NONE = -1;
    public static final int HIDDEN = -1000000;

    private static final int NO_SORT = -2;

    private static final int MOST_BYTES = 240;
    private static final int MOST_CELLS = 7;
    private static final int MOST_EVENTS = 6;
    private static final int MOST_TEXTS = 4;
    private static final int MOST_STEPS = 16;
    private static final int MOST_NESTED = 6;
    private static final int MOST_SAID = 16;
    private static final int MOST_LIARS = 7;
    private static final int MOST_DAY = 9999;
    private static final int MOST_DAYS_AT_ONCE = 60;
    private static final int MOST_LOGGED = 60;
    private static final int MOST_ACTS = 40;
    private static final int MOST_TAKEN = 99;
    private static final int MOST_NUMBER = 1000000;
    private static final int MOST_PRICE = 9;
    private static final int MOST_GUARDS = 9;
    private static final int MOST_WEARING_DAYS = 99;
    private static final int MOST_CODE_LENGTH = 5;

    private static final int CODE_ROOM = 32;
    private static final int CODE_BREAD = 2;
    private static final int NEWS_WORTH = 3;
    private static final int CASES = 10;
    private static final int PART_DIGITS = 6;
    private static final int ALL_PARTS = 1000000;

    /** The sorts of texts. */
    private static final int FORT = 0;
    private static final int LAW = 1;
    private static final int PLAN = 2;

    /** What a step, or an act by hand, does. */
    private static final int SEE = 0;
    private static final int CHANGE = 1;
    private static final int KNOCK = 2;
    private static final int ANEW = 3;
    private static final int DAY_ENDS = 4;
    private static final String STEP_LETTERS = "smtce";

    /** The items of a fort's clauses: letters, bounds, and what holds where none is told. */
    private static final String RULE_LETTERS = "wlgb";
    private static final int[] RULE_LEAST = {0, 1, 1, 0};
    private static final int[] RULE_MOST = {6, 60, 99, 9};
    private static final int[] RULE_USUAL = {0, 20, 40, 1};
    private static final int RULE_ITEMS = 4;
    private static final String CELL_LETTERS = "tmhxb";
    private static final int[] CELL_LEAST = {0, 0, 0, 0, 0};
    private static final int[] CELL_MOST = {30, 9, 10, 6, 99};
    private static final int[] CELL_USUAL = {4, 3, 9, 6, 5};
    private static final int CELL_ITEMS = 5;
    private static final String EVENT_LETTERS = "np";
    private static final int[] EVENT_LEAST = {1, 0};
    private static final int[] EVENT_MOST = {9, 10};
    private static final int[] EVENT_USUAL = {3, 5};
    private static final int EVENT_ITEMS = 2;

    /** The letters of a law, and their places in the row of their numbers. */
    private static final String LAW_LETTERS = "tnmkdg";
    private static final int LAW_LETTER_COUNT = 6;
    private static final int THICK = 0;
    private static final int KNOCKS = 1;
    private static final int MERIT = 2;
    private static final int KIND = 3;
    private static final int DATE = 4;
    private static final int LEARNING = 5;

    /** The parts of a scene's row. */
    private static final int SITS = 0;
    private static final int BREAD = 7;
    private static final int MIRROR = 14;
    private static final int KNOWS = 21;
    private static final int SEEN = 28;
    private static final int HEARD = 29;
    private static final int TOLD = 30;
    private static final int LEARNT = 31;
    private static final int DAY = 32;
    private static final int SCENE_SIZE = 33;

    private static final int END_OF_TAPE = -1;

    private final Tape tape;
    private Fort fort;
    private Fort draft;
    /** One more than can be told: the first that is free is where the next text is read. */
    private final Law[] laws;
    private int lawCount;
    private int lawThatHolds;
    private final Plan[] plans;
    private int planCount;
    private int guardsOfTen;
    private final Scene now;
    private final Scene apart;
    private final Scene imaged;
    private boolean hasImage;
    private final Diary diary;
    private final Diary imagedDiary;
    private final Acts acts;
    private final Knocking knocking;
    private final Witnesses witnesses;
    private final Codebook codebook;
    private long drawn;

    public OneWindow() {
        tape = new Tape();
        fort = new Fort();
        draft = new Fort();
        laws = new Law[MOST_TEXTS + 1];
        plans = new Plan[MOST_TEXTS + 1];
        for (int i = 0; i <= MOST_TEXTS; i++) {
            laws[i] = new Law();
            plans[i] = new Plan();
        }
        lawThatHolds = NONE;
        now = new Scene();
        apart = new Scene();
        imaged = new Scene();
        diary = new Diary();
        imagedDiary = new Diary();
        acts = new Acts();
        knocking = new Knocking();
        witnesses = new Witnesses();
        codebook = new Codebook();
    }

    // ---- texts

    public int feed(int a, int b, int c, int d, int e) {
        int more = Tape.bytesIn(a) + Tape.bytesIn(b) + Tape.bytesIn(c) + Tape.bytesIn(d) + Tape.bytesIn(e);
        if (tape.length + more > MOST_BYTES) {
            return NONE;
        }
        tape.add(a);
        tape.add(b);
        tape.add(c);
        tape.add(d);
        tape.add(e);
        return tape.length;
    }

    public boolean end(int n) {
        if (n < 0 || n > tape.length) {
            return false;
        }
        tape.length = n;
        return true;
    }

    public int fault(int sort) {
        return isSort(sort) ? faultOfTape(sort) : NO_SORT;
    }

    public int text(int sort) {
        if (!isSort(sort) || faultOfTape(sort) != NONE) {
            return NONE;
        }
        if (sort == FORT) {
            tape.length = 0;
            return openFort();
        }
        int number = sort == LAW ? lawCount : planCount;
        if (number >= MOST_TEXTS) {
            return NONE;
        }
        tape.length = 0;
        if (sort == LAW) {
            lawCount++;
        } else {
            planCount++;
        }
        return number;
    }

    private static boolean isSort(int sort) {
        return sort >= FORT && sort <= PLAN;
    }

    private int faultOfTape(int sort) {
        tape.begin();
        if (sort == FORT) {
            draft.read(tape);
        } else if (sort == LAW) {
            laws[lawCount].read(tape);
        } else {
            plans[planCount].read(tape);
        }
        return tape.wrong;
    }

    private int openFort() {
        Fort old = fort;
        fort = draft;
        draft = old;
        now.open(fort);
        acts.forget();
        witnesses.forget();
        codebook.forget();
        hasImage = false;
        return fort.cells;
    }

    // ---- what is told and how it stands

    public int rule(int what) {
        return hasFort() && what >= 0 && what < RULE_ITEMS ? fort.rules[what] : NONE;
    }

    public int prisoner(int prisoner, int what) throws NoSuchElementException {
        if (!isPrisoner(prisoner)) {
            throw new NoSuchElementException("no such prisoner");
        }
        switch (what) {
            case 0: return now.cellOf(prisoner, fort.cells);
            case 1: return fort.merit(prisoner);
            case 2: return fort.honesty(prisoner);
            case 3: return fort.leavesOut(prisoner);
            case 4: return now.row[BREAD + prisoner];
            case 5: return now.row[KNOWS + prisoner];
            case 6: return now.row[MIRROR + prisoner];
            default: throw new NoSuchElementException("no such thing of a prisoner");
        }
    }

    public int cell(int cell, int what) {
        if (!isCell(cell) || what < 0 || what > 1) {
            return NONE;
        }
        return what == 0 ? fort.thick(cell) : now.row[SITS + cell];
    }

    public int event(int event, int what) {
        if (!isEvent(event)) {
            return NONE;
        }
        switch (what) {
            case 0: return fort.knocks(event);
            case 1: return fort.chance(event);
            case 2: return now.sees(event) ? 1 : 0;
            default: return NONE;
        }
    }

    public boolean law(int law) {
        if (law < NONE || law >= lawCount) {
            return false;
        }
        lawThatHolds = law;
        return true;
    }

    public boolean guards(int v) {
        if (v < 0 || v > MOST_GUARDS || v == guardsOfTen) {
            return false;
        }
        guardsOfTen = v;
        return true;
    }

    public int log(int i, int what) {
        if (i < 0 || i >= logged() || what < 0 || what >= Diary.PARTS) {
            return NONE;
        }
        return diary.entry(now.row[DAY] - 1 - i, what);
    }

    public int count(int what) {
        switch (what) {
            case 0: return fort.cells;
            case 1: return fort.events;
            case 2: return lawCount;
            case 3: return planCount;
            case 4: return tape.length;
            case 5: return lawThatHolds;
            case 6: return now.row[DAY];
            case 7: return hasFort() ? teller() : NONE;
            case 8: return now.row[SEEN];
            case 9: return now.row[TOLD];
            case 10: return now.row[LEARNT];
            case 11: return now.breadOfAll(fort.cells);
            case 12: return guardsOfTen;
            case 13: return witnesses.sayings;
            case 14: return logged();
            case 15: return acts.kept;
            default: return HIDDEN;
        }
    }

    private boolean hasFort() {
        return fort.cells > 0;
    }

    private boolean isPrisoner(int prisoner) {
        return prisoner >= 0 && prisoner < fort.cells;
    }

    private boolean isCell(int cell) {
        return cell >= 0 && cell < fort.cells;
    }

    private boolean isEvent(int event) {
        return event >= 0 && event < fort.events;
    }

    private int teller() {
        return now.row[SITS + fort.window()];
    }

    /** Each day that ended was logged, so the day tells how many were. */
    private int logged() {
        return Math.min(now.row[DAY], MOST_LOGGED);
    }

    private Law lawNow() {
        return lawThatHolds >= 0 && lawThatHolds < lawCount ? laws[lawThatHolds] : null;
    }

    // ---- acts

    public int see(int event) {
        return acted(SEE, event, NONE) ? now.row[SEEN] : NONE;
    }

    public int tell() {
        return acted(KNOCK, NONE, NONE) ? now.row[HEARD] : NONE;
    }

    public int move(int one, int other) {
        return acted(CHANGE, one, other) ? teller() : NONE;
    }

    public boolean mirror(int prisoner, int events) {
        if (!isPrisoner(prisoner) || events < 0 || events >= 1 << fort.events) {
            return false;
        }
        if (now.row[MIRROR + prisoner] == events) {
            return false;
        }
        acts.keep(now);
        now.row[MIRROR + prisoner] = events;
        return true;
    }

    public int code() {
        int payer = now.richest(fort.cells);
        return acted(ANEW, NONE, NONE) ? payer : NONE;
    }

    public int days(int n) {
        if (!canSpend(n)) {
            return NONE;
        }
        for (int i = 0; i < n; i++) {
            acted(DAY_ENDS, NONE, NONE);
        }
        return now.row[DAY];
    }

    public int years(int n, long seed) {
        if (!canSpend(n)) {
            return NONE;
        }
        drawn = seed;
        for (int i = 0; i < n; i++) {
            drawDay();
        }
        return now.row[DAY];
    }

    public int undo() {
        if (acts.kept == 0) {
            return NONE;
        }
        acts.bringBack(now);
        return acts.kept;
    }

    public int image() {
        if (!hasFort()) {
            return NONE;
        }
        imaged.copy(now);
        imagedDiary.copy(diary);
        hasImage = true;
        return now.row[DAY];
    }

    public int back() {
        if (!hasImage) {
            return NONE;
        }
        now.copy(imaged);
        diary.copy(imagedDiary);
        acts.forget();
        return now.row[DAY];
    }

    private boolean canSpend(int days) {
        return hasFort() && days >= 1 && days <= MOST_DAYS_AT_ONCE && now.row[DAY] + days <= MOST_DAY;
    }

    private boolean acted(int kind, int first, int second) {
        if (!canBe(now, kind, first, second)) {
            return false;
        }
        acts.keep(now);
        if (kind == DAY_ENDS) {
            diary.put(now);
        }
        change(now, kind, first, second);
        return true;
    }

    private boolean canBe(Scene scene, int kind, int first, int second) {
        if (!hasFort()) {
            return false;
        }
        switch (kind) {
            case SEE: return isEvent(first) && !scene.sees(first);
            case CHANGE: return isPrisoner(first) && isPrisoner(second) && first != second;
            case KNOCK: return scene.row[TOLD] == 0 && scene.row[LEARNT] < fort.worn();
            case ANEW: return scene.row[BREAD + scene.richest(fort.cells)] >= CODE_BREAD;
            default: return scene.row[DAY] < MOST_DAY;
        }
    }

    /** What a step changes; the caller has asked whether it can be. */
    private void change(Scene scene, int kind, int first, int second) {
        if (kind == SEE) {
            scene.row[SEEN] |= 1 << first;
        } else if (kind == CHANGE) {
            scene.swapCells(first, second, fort.cells);
        } else if (kind == KNOCK) {
            int heard = knocking.tellAll(fort, scene, lawNow(), fort.cost(), false);
            scene.wasTold(scene.row[SITS + fort.window()], heard, fort.cells);
        } else if (kind == ANEW) {
            scene.row[BREAD + scene.richest(fort.cells)] -= CODE_BREAD;
            scene.row[LEARNT] = 0;
        } else {
            scene.endDay();
        }
    }

    private void drawDay() {
        acts.keep(now);
        for (int event = 0; event < fort.events; event++) {
            if (!now.sees(event) && drawOfTen() < fort.chance(event)) {
                change(now, SEE, event, NONE);
            }
        }
        if (canBe(now, KNOCK, NONE, NONE)) {
            change(now, KNOCK, NONE, NONE);
        }
        if (drawOfTen() < guardsOfTen) {
            change(now, CHANGE, teller(), worthiestBut(teller()));
        }
        diary.put(now);
        change(now, DAY_ENDS, NONE, NONE);
    }

    private int drawOfTen() {
        drawn = drawn * 6364136223846793005L + 1442695040888963407L;
        return (int) ((drawn >>> 33) % CASES);
    }

    private int worthiestBut(int one) {
        int found = one;
        for (int prisoner = 0; prisoner < fort.cells; prisoner++) {
            if (prisoner != one && (found == one || fort.merit(prisoner) > fort.merit(found))) {
                found = prisoner;
            }
        }
        return found;
    }

    // ---- plans

    public int step(int plan, int i, int what) {
        if (!isPlan(plan) || i < 0 || i >= plans[plan].steps || what < 0 || what >= Plan.PARTS) {
            return HIDDEN;
        }
        return plans[plan].part(i, what);
    }

    public int run(int plan, int what) {
        if (!isPlan(plan) || !hasFort() || what < 0 || what > 1) {
            return HIDDEN;
        }
        apart.copy(now);
        int done = 0;
        while (done < plans[plan].steps && ranApart(plans[plan], done)) {
            done++;
        }
        if (what == 1) {
            return apart.row[BREAD + apart.row[SITS + fort.window()]];
        }
        return done == plans[plan].steps ? NONE : done;
    }

    public int perform(int plan) {
        if (!isPlan(plan) || !hasFort()) {
            return NONE;
        }
        Plan told = plans[plan];
        int done = 0;
        while (done < told.steps && acted(told.part(done, 0), told.part(done, 1), told.part(done, 2))) {
            done++;
        }
        return done;
    }

    private boolean isPlan(int plan) {
        return plan >= 0 && plan < planCount;
    }

    private boolean ranApart(Plan plan, int i) {
        int kind = plan.part(i, 0);
        if (!canBe(apart, kind, plan.part(i, 1), plan.part(i, 2))) {
            return false;
        }
        change(apart, kind, plan.part(i, 1), plan.part(i, 2));
        return true;
    }

    // ---- how far knocks go

    public int far(int event, int cell) {
        if (!isEvent(event) || !isCell(cell)) {
            return NONE;
        }
        knocking.spread(fort, now, lawNow(), event, fort.window());
        return knocking.strength[cell];
    }

    public int wall(int event, int side) {
        if (!isEvent(event) || side < 0 || side > 1) {
            return NONE;
        }
        knocking.spread(fort, now, lawNow(), event, fort.window());
        int way = side == 0 ? -1 : 1;
        for (int cell = fort.window() + way; cell >= 0 && cell < fort.cells; cell += way) {
            if (knocking.strength[cell] <= 0) {
                return cell - way;
            }
        }
        return NONE;
    }

    public int listen(int event) {
        return isEvent(event) ? hearersFrom(fort.window(), event) : NONE;
    }

    public int escape(int prisoners, int event) {
        if (!isEvent(event) || prisoners < 0 || prisoners >= 1 << fort.cells) {
            return NONE;
        }
        int found = NONE;
        int fewest = MOST_CELLS + 1;
        for (int cell = 0; cell < fort.cells; cell++) {
            int hearers = hearersFrom(cell, event);
            int needed = prisoners & ~(1 << now.row[SITS + cell]);
            int others = Integer.bitCount(hearers & ~prisoners);
            if ((needed & ~hearers) == 0 && others < fewest) {
                found = cell;
                fewest = others;
            }
        }
        return found;
    }

    public int trust(int cell) {
        if (!isCell(cell)) {
            return NONE;
        }
        int between = 0;
        int highest = Math.max(cell, fort.window());
        for (int i = Math.min(cell, fort.window()) + 1; i < highest; i++) {
            between |= 1 << now.row[SITS + i];
        }
        return between;
    }

    public int wears() {
        if (!hasFort()) {
            return NONE;
        }
        int each = 0;
        for (int event = 0; event < fort.events; event++) {
            each += fort.leavesOut(teller()) == event ? 0 : fort.knocks(event);
        }
        int learnt = now.row[LEARNT];
        for (int day = 0; day <= MOST_WEARING_DAYS; day++) {
            if (learnt >= fort.worn()) {
                return day;
            }
            learnt += each;
        }
        return NONE;
    }

    private int hearersFrom(int cell, int event) {
        knocking.spread(fort, now, lawNow(), event, cell);
        return knocking.hearers(fort, now, cell);
    }

    // ---- seats

    public int seat(int prisoner) {
        return isPrisoner(prisoner) ? seatOf(prisoner) : NONE;
    }

    public int best() {
        int found = NONE;
        int most = NONE;
        for (int prisoner = 0; prisoner < fort.cells; prisoner++) {
            int got = seatOf(prisoner);
            if (got > most) {
                found = prisoner;
                most = got;
            }
        }
        return found;
    }

    public int swap(int what) {
        if (!hasFort() || what < 0 || what > 1) {
            return NONE;
        }
        int pair = NONE;
        int most = NONE;
        for (int one = 0; one < fort.cells; one++) {
            for (int other = one + 1; other < fort.cells; other++) {
                apart.copy(now);
                apart.swapCells(one, other, fort.cells);
                int got = gainApart(fort.cost());
                if (got > most) {
                    pair = 10 * one + other;
                    most = got;
                }
            }
        }
        return what == 0 ? pair : most;
    }

    public int price(int what) {
        if (!hasFort() || what < 0 || what > 1) {
            return NONE;
        }
        int found = NONE;
        int most = NONE;
        for (int cost = 0; cost <= MOST_PRICE; cost++) {
            apart.copy(now);
            int got = gainApart(cost);
            if (got > most) {
                found = cost;
                most = got;
            }
        }
        return what == 0 ? found : most;
    }

    public int buys(int one, int other, int x, int y) {
        if (!canBuy(one, other) || x < 0 || x > 1 || y < 0 || y > 1) {
            return HIDDEN;
        }
        hearApart();
        return has(one, other, x, y);
    }

    public int rests(int one, int other, int i) {
        if (!canBuy(one, other) || i < NONE) {
            return NONE;
        }
        hearApart();
        int found = 0;
        for (int pair = 0; pair < 4; pair++) {
            int x = pair >> 1;
            int y = pair & 1;
            if (has(one, other, x, y) >= has(one, other, 1 - x, y)
                    && has(other, one, y, x) >= has(other, one, 1 - y, x)) {
                if (found == i) {
                    return 10 * x + y;
                }
                found++;
            }
        }
        return i == NONE ? found : NONE;
    }

    private int seatOf(int prisoner) {
        apart.copy(now);
        apart.swapCells(teller(), prisoner, fort.cells);
        return gainApart(fort.cost());
    }

    /** What the teller apart gets for all that is seen, as if its code held. */
    private int gainApart(int cost) {
        int bread = BREAD + apart.row[SITS + fort.window()];
        int before = apart.row[bread];
        knocking.tellAll(fort, apart, lawNow(), cost, true);
        return apart.row[bread] - before;
    }

    private boolean canBuy(int one, int other) {
        return isPrisoner(one) && isPrisoner(other) && one != other && one != teller() && other != teller();
    }

    private void hearApart() {
        apart.copy(now);
        knocking.tellAll(fort, apart, lawNow(), fort.cost(), true);
    }

    /** What one has by its choice x and the other's y, by what was heard apart. */
    private int has(int one, int other, int x, int y) {
        if (x == 0) {
            return 0;
        }
        int own = Integer.bitCount(knocking.heardBy[one]);
        int both = Integer.bitCount(knocking.heardBy[one] & knocking.heardBy[other]);
        return own * (NEWS_WORTH - fort.cost()) - (y == 1 ? both : 0);
    }

    // ---- the most and the least

    public int codes(int what) {
        if (!hasFort() || what < 0 || what > 1) {
            return NONE;
        }
        codebook.search(fort);
        return what == 0 ? codebook.digits : codebook.leastSum;
    }

    public int merits() {
        if (!hasFort()) {
            return NONE;
        }
        int digits = 0;
        int named = 0;
        for (int place = 0; place < fort.cells; place++) {
            int found = NONE;
            for (int prisoner = 0; prisoner < fort.cells; prisoner++) {
                boolean free = (named >> prisoner & 1) == 0;
                if (free && (found == NONE || fort.merit(prisoner) > fort.merit(found))) {
                    found = prisoner;
                }
            }
            digits = 10 * digits + found;
            named |= 1 << found;
        }
        return digits;
    }

    public int quiet() {
        int found = NONE;
        for (int event = 0; event < fort.events; event++) {
            if (found == NONE || fort.knocks(event) < fort.knocks(found)) {
                found = event;
            }
        }
        return found;
    }

    public int rich() {
        return hasFort() ? now.richest(fort.cells) : NONE;
    }

    public int most() {
        int found = NONE;
        int most = NONE;
        for (int prisoner = 0; prisoner < fort.cells; prisoner++) {
            int known = Integer.bitCount(now.row[KNOWS + prisoner]);
            if (known > most) {
                found = prisoner;
                most = known;
            }
        }
        return found;
    }

    // ---- what was said

    public int said(int prisoner, int event, boolean was) {
        if (!isPrisoner(prisoner) || !isEvent(event) || witnesses.sayings >= MOST_SAID) {
            return NONE;
        }
        witnesses.hear(prisoner, event, was);
        return witnesses.sayings;
    }

    public int least() {
        return hasFort() ? fewestLiars() : NONE;
    }

    public int truths(int v, int i) {
        if (!canDoubt(v) || i < NONE) {
            return NONE;
        }
        int found = 0;
        for (int truth = 0; truth < allTruths(); truth++) {
            if (liarsBy(truth) <= v) {
                if (found == i) {
                    return truth;
                }
                found++;
            }
        }
        return i == NONE ? found : NONE;
    }

    public int sure(int v, int what) {
        if (!canDoubt(v) || what < 0 || what > 1) {
            return NONE;
        }
        int inAll = allTruths() - 1;
        int inAny = 0;
        boolean any = false;
        for (int truth = 0; truth < allTruths(); truth++) {
            if (liarsBy(truth) <= v) {
                inAll &= truth;
                inAny |= truth;
                any = true;
            }
        }
        if (!any) {
            return NONE;
        }
        return what == 0 ? inAll : allTruths() - 1 - inAny;
    }

    public int ask(int v) {
        if (!canDoubt(v)) {
            return NONE;
        }
        int found = NONE;
        int least = allTruths() + 1;
        for (int event = 0; event < fort.events; event++) {
            int apartBy = yesLessNo(event, v);
            if (apartBy != NONE && apartBy < least) {
                found = event;
                least = apartBy;
            }
        }
        return found;
    }

    public int liars() {
        if (!hasFort()) {
            return NONE;
        }
        int fewest = fewestLiars();
        int always = (1 << fort.cells) - 1;
        for (int truth = 0; truth < allTruths(); truth++) {
            int lying = witnesses.liarsBy(truth);
            if (Integer.bitCount(lying) == fewest) {
                always &= lying;
            }
        }
        return always;
    }

    public int belief(int event) {
        if (!isEvent(event)) {
            return NONE;
        }
        long all = 0;
        long part = 0;
        for (int truth = 0; truth < allTruths(); truth++) {
            long likely = likelihood(truth);
            all += likely;
            part += (truth >> event & 1) == 1 ? likely : 0;
        }
        return partsOf(part, all);
    }

    private boolean canDoubt(int v) {
        return hasFort() && v >= 0 && v <= MOST_LIARS;
    }

    private int allTruths() {
        return 1 << fort.events;
    }

    private int liarsBy(int truth) {
        return Integer.bitCount(witnesses.liarsBy(truth));
    }

    private int fewestLiars() {
        int fewest = MOST_CELLS;
        for (int truth = 0; truth < allTruths(); truth++) {
            fewest = Math.min(fewest, liarsBy(truth));
        }
        return fewest;
    }

    /** How far yes and no are apart among the truths with v liars or fewer; NONE without a truth. */
    private int yesLessNo(int event, int v) {
        int difference = 0;
        boolean any = false;
        for (int truth = 0; truth < allTruths(); truth++) {
            if (liarsBy(truth) <= v) {
                difference += (truth >> event & 1) == 1 ? 1 : -1;
                any = true;
            }
        }
        return any ? Math.abs(difference) : NONE;
    }

    private long likelihood(int truth) {
        long likely = 1;
        for (int event = 0; event < fort.events; event++) {
            int chance = fort.chance(event);
            likely *= (truth >> event & 1) == 1 ? chance : CASES - chance;
        }
        for (int prisoner = 0; prisoner < fort.cells; prisoner++) {
            if (witnesses.spoke(prisoner)) {
                int honesty = fort.honesty(prisoner);
                likely *= witnesses.lies(prisoner, truth) ? CASES - honesty : honesty;
            }
        }
        return likely;
    }

    /** Digit by digit, as a part of up to 10 to the 13 times 10 to the 6 is more than a long holds. */
    private static int partsOf(long part, long all) {
        if (all <= 0) {
            return NONE;
        }
        if (part >= all) {
            return ALL_PARTS;
        }
        int parts = 0;
        long rest = part;
        for (int digit = 0; digit < PART_DIGITS; digit++) {
            rest *= 10;
            parts = 10 * parts + (int) (rest / all);
            rest %= all;
        }
        return parts;
    }

    // ---- the classes inside

    /**
     * The bytes that were fed, and the place that a reader has come to. Behind the first fault a reader finds nothing
     * more, so it comes to its end by itself.
     */
    private static final class Tape {
        private final int[] bytes = new int[MOST_BYTES];
        private int length;
        private int place;
        private int wrong;

        static int bytesIn(int number) {
            int found = 0;
            for (int shift = 24; shift >= 0; shift -= 8) {
                found += (number >>> shift & 255) == 0 ? 0 : 1;
            }
            return found;
        }

        void add(int number) {
            for (int shift = 24; shift >= 0; shift -= 8) {
                int one = number >>> shift & 255;
                if (one != 0 && length < MOST_BYTES) {
                    bytes[length] = one;
                    length++;
                }
            }
        }

        void begin() {
            place = 0;
            wrong = NONE;
        }

        private int here() {
            return wrong == NONE && place < length ? bytes[place] : END_OF_TAPE;
        }

        /** The next sign behind blanks. */
        int next() {
            while (place < length && bytes[place] == ' ') {
                place++;
            }
            return here();
        }

        void pass() {
            if (place < length) {
                place++;
            }
        }

        boolean takes(int sign) {
            if (next() != sign) {
                return false;
            }
            pass();
            return true;
        }

        void expect(int sign) {
            if (!takes(sign)) {
                failAt(place);
            }
        }

        void expectEnd() {
            if (next() != END_OF_TAPE) {
                failAt(place);
            }
        }

        /** The sign that comes next can't be. */
        void fail() {
            next();
            failAt(place);
        }

        private void failAt(int where) {
            if (wrong == NONE) {
                wrong = where;
            }
        }

        /** Where among letters the next sign is; NONE: it is none of them. */
        int letterOf(String letters) {
            int sign = next();
            return sign == END_OF_TAPE ? NONE : letters.indexOf((char) sign);
        }

        int digit() {
            int sign = next();
            if (!isDigit(sign)) {
                failAt(place);
                return 0;
            }
            pass();
            return sign - '0';
        }

        int number(int digits, int lowest, int highest) {
            int sign = next();
            int value = 0;
            int read = 0;
            while (read < digits && isDigit(sign)) {
                value = 10 * value + sign - '0';
                read++;
                pass();
                sign = here();
            }
            if (read == 0 || isDigit(sign)) {
                failAt(place);
            } else if (value < lowest || value > highest) {
                failAt(place - 1);
            }
            return value;
        }

        static boolean isDigit(int sign) {
            return sign >= '0' && sign <= '9';
        }
    }

    /** What a fort's text tells; without cells there is no fort. */
    private static final class Fort {
        private final int[] rules = new int[RULE_ITEMS];
        private final int[] cellItems = new int[MOST_CELLS * CELL_ITEMS];
        private final int[] eventItems = new int[MOST_EVENTS * EVENT_ITEMS];
        private int cells;
        private int events;
        private boolean ruled;

        void read(Tape tape) {
            cells = 0;
            events = 0;
            ruled = false;
            System.arraycopy(RULE_USUAL, 0, rules, 0, RULE_ITEMS);
            for (int clause = 0; clause < MOST_BYTES; clause++) {
                readClause(tape);
                if (!tape.takes(';')) {
                    break;
                }
            }
            tape.expectEnd();
            if (cells < 2 || events < 1 || window() >= cells) {
                tape.fail();
            }
        }

        private void readClause(Tape tape) {
            int letter = tape.next();
            if (letter == 's' && !ruled) {
                ruled = true;
                tape.pass();
                readItems(tape, RULE_LETTERS, RULE_LEAST, RULE_MOST, rules, 0);
            } else if (letter == 'c' && cells < MOST_CELLS) {
                int at = cells * CELL_ITEMS;
                System.arraycopy(CELL_USUAL, 0, cellItems, at, CELL_ITEMS);
                cells++;
                tape.pass();
                readItems(tape, CELL_LETTERS, CELL_LEAST, CELL_MOST, cellItems, at);
            } else if (letter == 'v' && events < MOST_EVENTS) {
                int at = events * EVENT_ITEMS;
                System.arraycopy(EVENT_USUAL, 0, eventItems, at, EVENT_ITEMS);
                events++;
                tape.pass();
                readItems(tape, EVENT_LETTERS, EVENT_LEAST, EVENT_MOST, eventItems, at);
            } else {
                tape.fail();
            }
        }

        /** Stops at what is no letter of the clause; a ; or the end must stand there, as the caller asks. */
        private void readItems(Tape tape, String letters, int[] lowest, int[] highest, int[] items, int at) {
            int had = 0;
            for (int turn = 0; turn <= letters.length(); turn++) {
                int item = tape.letterOf(letters);
                if (item == NONE) {
                    return;
                }
                if ((had >> item & 1) == 1) {
                    tape.fail();
                    return;
                }
                had |= 1 << item;
                tape.pass();
                items[at + item] = tape.number(2, lowest[item], highest[item]);
            }
        }

        int window() {
            return rules[0];
        }

        int loud() {
            return rules[1];
        }

        int worn() {
            return rules[2];
        }

        int cost() {
            return rules[3];
        }

        int thick(int cell) {
            return cellItems[cell * CELL_ITEMS];
        }

        int merit(int prisoner) {
            return cellItems[prisoner * CELL_ITEMS + 1];
        }

        int honesty(int prisoner) {
            return cellItems[prisoner * CELL_ITEMS + 2];
        }

        int leavesOut(int prisoner) {
            int event = cellItems[prisoner * CELL_ITEMS + 3];
            return event < events ? event : NONE;
        }

        int breadAtFirst(int prisoner) {
            return cellItems[prisoner * CELL_ITEMS + 4];
        }

        int knocks(int event) {
            return eventItems[event * EVENT_ITEMS];
        }

        int chance(int event) {
            return eventItems[event * EVENT_ITEMS + 1];
        }
    }

    /**
     * A law, as signs in the order in which a stack takes them: a number as it is, a letter as -1 less its place,
     * an operation as less its sign. Each sign comes from a byte of its own but the last end of a clause.
     */
    private static final class Law {
        private static final int MOST_SIGNS = MOST_BYTES + 1;
        private static final int MOST_STACKED = 32;
        private static final int CLAUSE_ENDS = -';';
        private static final int ONLY_IF = -'?';
        private static final int NOT = -'!';

        private final int[] signs = new int[MOST_SIGNS];
        private final int[] stack = new int[MOST_STACKED];
        private int size;

        void read(Tape tape) {
            size = 0;
            for (int clause = 0; clause < MOST_BYTES; clause++) {
                readClause(tape);
                put(CLAUSE_ENDS);
                if (!tape.takes(';')) {
                    break;
                }
            }
            tape.expectEnd();
        }

        private void readClause(Tape tape) {
            tape.expect('y');
            tape.expect(':');
            int sign = tape.next();
            boolean bySum = sign != '!' && sign != '(';
            if (bySum) {
                readSum(tape, 0);
                if (!isComparison(tape.next())) {
                    return;
                }
            }
            readCondition(tape, 0, bySum);
            tape.expect('?');
            put(ONLY_IF);
            readSum(tape, 0);
        }

        /** With begun the first sum of its first unit has been read already. */
        private void readCondition(Tape tape, int nested, boolean begun) {
            readTruth(tape, nested, begun);
            for (int turn = 0; turn < MOST_BYTES && tape.takes('|'); turn++) {
                readTruth(tape, nested, false);
                put(-'|');
            }
        }

        private void readTruth(Tape tape, int nested, boolean begun) {
            readUnit(tape, nested, begun);
            for (int turn = 0; turn < MOST_BYTES && tape.takes('&'); turn++) {
                readUnit(tape, nested, false);
                put(-'&');
            }
        }

        private void readUnit(Tape tape, int nested, boolean begun) {
            int sign = tape.next();
            boolean opens = !begun && (sign == '!' || sign == '(');
            if (opens && !enters(tape, nested)) {
                return;
            }
            if (opens && sign == '!') {
                readUnit(tape, nested + 1, false);
                put(NOT);
                return;
            }
            if (opens) {
                readCondition(tape, nested + 1, false);
                tape.expect(')');
                return;
            }
            if (!begun) {
                readSum(tape, nested);
            }
            int comparison = tape.next();
            if (!isComparison(comparison)) {
                tape.fail();
                return;
            }
            tape.pass();
            readSum(tape, nested);
            put(-comparison);
        }

        private void readSum(Tape tape, int nested) {
            readTerm(tape, nested);
            for (int turn = 0; turn < MOST_BYTES; turn++) {
                int sign = tape.next();
                if (sign != '+' && sign != '-') {
                    return;
                }
                tape.pass();
                readTerm(tape, nested);
                put(-sign);
            }
        }

        private void readTerm(Tape tape, int nested) {
            readAtom(tape, nested);
            for (int turn = 0; turn < MOST_BYTES; turn++) {
                int sign = tape.next();
                if (sign != '*' && sign != '/') {
                    return;
                }
                tape.pass();
                readAtom(tape, nested);
                put(-sign);
            }
        }

        private void readAtom(Tape tape, int nested) {
            int sign = tape.next();
            int letter = tape.letterOf(LAW_LETTERS);
            if (Tape.isDigit(sign)) {
                put(tape.number(4, 0, MOST_NUMBER));
            } else if (letter != NONE) {
                tape.pass();
                put(-1 - letter);
            } else if (sign != '[') {
                tape.fail();
            } else if (enters(tape, nested)) {
                readSum(tape, nested + 1);
                tape.expect(']');
            }
        }

        /** Passes one of ( [ ! unless six are open. */
        private static boolean enters(Tape tape, int nested) {
            if (nested >= MOST_NESTED) {
                tape.fail();
                return false;
            }
            tape.pass();
            return true;
        }

        private static boolean isComparison(int sign) {
            return sign == '=' || sign == '<' || sign == '>';
        }

        private void put(int sign) {
            if (size < MOST_SIGNS) {
                signs[size] = sign;
                size++;
            }
        }

        int worth(int[] letters) {
            int depth = 0;
            for (int i = 0; i < size; i++) {
                int sign = signs[i];
                if (sign >= -LAW_LETTER_COUNT) {
                    depth = stacked(depth, sign >= 0 ? sign : letters[-1 - sign]);
                } else if (sign == CLAUSE_ENDS || depth < 1) {
                    return depth < 1 ? 0 : stack[depth - 1];
                } else if (sign == NOT) {
                    stack[depth - 1] = 1 - stack[depth - 1];
                } else if (sign == ONLY_IF) {
                    depth--;
                    i = stack[depth] == 0 ? clauseEnd(i) : i;
                } else if (depth >= 2) {
                    depth--;
                    stack[depth - 1] = joined(sign, stack[depth - 1], stack[depth]);
                }
            }
            return 0;
        }

        private int stacked(int depth, int value) {
            if (depth >= MOST_STACKED) {
                return depth;
            }
            stack[depth] = value;
            return depth + 1;
        }

        private int clauseEnd(int from) {
            int i = from;
            while (i < size && signs[i] != CLAUSE_ENDS) {
                i++;
            }
            return i;
        }

        private static int joined(int sign, long left, long right) {
            long value;
            switch (sign) {
                case -'+': value = left + right; break;
                case -'-': value = left - right; break;
                case -'*': value = left * right; break;
                case -'/': value = right == 0 ? 0 : left / right; break;
                case -'=': value = left == right ? 1 : 0; break;
                case -'<': value = left < right ? 1 : 0; break;
                case -'>': value = left > right ? 1 : 0; break;
                case -'&': value = left & right; break;
                default: value = left | right;
            }
            return (int) Math.max(-MOST_NUMBER, Math.min(MOST_NUMBER, value));
        }
    }

    /** A plan: of each step what it does and its digits. */
    private static final class Plan {
        private static final int PARTS = 3;

        private final int[] parts = new int[MOST_STEPS * PARTS];
        private int steps;

        void read(Tape tape) {
            steps = 0;
            for (int i = 0; i < MOST_STEPS; i++) {
                readStep(tape, i * PARTS);
                steps++;
                if (i + 1 == MOST_STEPS || !tape.takes(';')) {
                    break;
                }
            }
            tape.expectEnd();
        }

        private void readStep(Tape tape, int at) {
            int kind = tape.letterOf(STEP_LETTERS);
            if (kind == NONE) {
                tape.fail();
                return;
            }
            tape.pass();
            parts[at] = kind;
            parts[at + 1] = kind == SEE || kind == CHANGE ? tape.digit() : NONE;
            parts[at + 2] = kind == CHANGE ? tape.digit() : NONE;
        }

        int part(int i, int what) {
            return parts[i * PARTS + what];
        }
    }

    /** What changes from day to day, in one row, so that one copy keeps it and one brings it back. */
    private static final class Scene {
        private final int[] row = new int[SCENE_SIZE];

        void open(Fort fort) {
            Arrays.fill(row, 0);
            for (int i = 0; i < fort.cells; i++) {
                row[SITS + i] = i;
                row[BREAD + i] = fort.breadAtFirst(i);
            }
        }

        void copy(Scene other) {
            System.arraycopy(other.row, 0, row, 0, SCENE_SIZE);
        }

        boolean sees(int event) {
            return (row[SEEN] >> event & 1) == 1;
        }

        int cellOf(int prisoner, int cells) {
            int cell = 0;
            while (cell < cells - 1 && row[SITS + cell] != prisoner) {
                cell++;
            }
            return cell;
        }

        void swapCells(int one, int other, int cells) {
            int cellOfOne = cellOf(one, cells);
            int cellOfOther = cellOf(other, cells);
            row[SITS + cellOfOne] = other;
            row[SITS + cellOfOther] = one;
        }

        int richest(int cells) {
            int found = 0;
            for (int prisoner = 1; prisoner < cells; prisoner++) {
                if (row[BREAD + prisoner] > row[BREAD + found]) {
                    found = prisoner;
                }
            }
            return found;
        }

        int breadOfAll(int cells) {
            int sum = 0;
            for (int prisoner = 0; prisoner < cells; prisoner++) {
                sum += row[BREAD + prisoner];
            }
            return sum;
        }

        void pay(int from, int to, int cost) {
            if (row[BREAD + from] >= cost) {
                row[BREAD + from] -= cost;
                row[BREAD + to] += cost;
            }
        }

        /** What is seen is known to the teller, and by mirrors, behind the telling. */
        void wasTold(int teller, int heard, int cells) {
            row[KNOWS + teller] |= row[SEEN];
            for (int prisoner = 0; prisoner < cells; prisoner++) {
                row[KNOWS + prisoner] |= row[SEEN] & row[MIRROR + prisoner];
            }
            row[HEARD] = heard;
            row[TOLD] = 1;
        }

        void endDay() {
            for (int prisoner = 0; prisoner < MOST_CELLS; prisoner++) {
                row[KNOWS + prisoner] = 0;
            }
            row[SEEN] = 0;
            row[HEARD] = 0;
            row[TOLD] = 0;
            row[DAY]++;
        }
    }

    /** How loud knocks are in each cell, and what comes of them. */
    private static final class Knocking {
        private final int[] strength = new int[MOST_CELLS];
        private final int[] heardBy = new int[MOST_CELLS];
        private final int[] letters = new int[LAW_LETTER_COUNT];

        /** Without a law a wall takes how thick it is. */
        void spread(Fort fort, Scene scene, Law law, int event, int from) {
            letters[KNOCKS] = fort.knocks(event);
            letters[KIND] = event;
            letters[DATE] = scene.row[DAY];
            letters[LEARNING] = scene.row[LEARNT];
            strength[from] = fort.loud();
            for (int cell = from + 1; cell < fort.cells; cell++) {
                int merit = fort.merit(scene.row[SITS + cell]);
                strength[cell] = behind(strength[cell - 1], fort.thick(cell - 1), merit, law);
            }
            for (int cell = from - 1; cell >= 0; cell--) {
                int merit = fort.merit(scene.row[SITS + cell]);
                strength[cell] = behind(strength[cell + 1], fort.thick(cell), merit, law);
            }
        }

        private int behind(int ahead, int thick, int merit, Law law) {
            if (ahead <= 0) {
                return 0;
            }
            int taken = thick;
            if (law != null) {
                letters[THICK] = thick;
                letters[MERIT] = merit;
                taken = Math.max(0, Math.min(MOST_TAKEN, law.worth(letters)));
            }
            return Math.max(0, ahead - taken);
        }

        /** Who hears what was spread from a cell; who sits there is none of them. */
        int hearers(Fort fort, Scene scene, int from) {
            int bits = 0;
            for (int cell = 0; cell < fort.cells; cell++) {
                if (cell != from && strength[cell] > 0) {
                    bits |= 1 << scene.row[SITS + cell];
                }
            }
            return bits;
        }

        /** Tells what is seen till the code is worn (or, if it holds, all): how many were heard together. */
        int tellAll(Fort fort, Scene scene, Law law, int cost, boolean holds) {
            int teller = scene.row[SITS + fort.window()];
            int heard = 0;
            Arrays.fill(heardBy, 0);
            for (int event = 0; event < fort.events; event++) {
                boolean told = scene.sees(event) && fort.leavesOut(teller) != event;
                if (told && (holds || scene.row[LEARNT] < fort.worn())) {
                    spread(fort, scene, law, event, fort.window());
                    int bits = hearers(fort, scene, fort.window());
                    hear(scene, event, bits, teller, cost);
                    heard += Integer.bitCount(bits);
                    scene.row[LEARNT] += fort.knocks(event);
                }
            }
            return heard;
        }

        private void hear(Scene scene, int event, int hearers, int teller, int cost) {
            for (int prisoner = 0; prisoner < MOST_CELLS; prisoner++) {
                if ((hearers >> prisoner & 1) == 1) {
                    heardBy[prisoner] |= 1 << event;
                    scene.row[KNOWS + prisoner] |= 1 << event;
                    scene.pay(prisoner, teller, cost);
                }
            }
        }
    }

    /** What was logged, by days. It goes back further than is shown, so that days undone leave as many to show. */
    private static final class Diary {
        private static final int PARTS = 3;
        private static final int DAYS = MOST_LOGGED + MOST_ACTS;

        private final int[] entries = new int[DAYS * PARTS];

        void put(Scene scene) {
            int at = scene.row[DAY] % DAYS * PARTS;
            entries[at] = scene.row[SEEN];
            entries[at + 1] = scene.row[HEARD];
            entries[at + 2] = scene.row[LEARNT];
        }

        int entry(int day, int what) {
            return entries[day % DAYS * PARTS + what];
        }

        void copy(Diary other) {
            System.arraycopy(other.entries, 0, entries, 0, entries.length);
        }
    }

    /** How it stood ahead of each of the latest acts. */
    private static final class Acts {
        private final int[] scenes = new int[MOST_ACTS * SCENE_SIZE];
        private int next;
        private int kept;

        void forget() {
            kept = 0;
        }

        void keep(Scene scene) {
            System.arraycopy(scene.row, 0, scenes, next * SCENE_SIZE, SCENE_SIZE);
            next = (next + 1) % MOST_ACTS;
            kept = Math.min(kept + 1, MOST_ACTS);
        }

        void bringBack(Scene scene) {
            if (kept > 0) {
                next = (next + MOST_ACTS - 1) % MOST_ACTS;
                kept--;
                System.arraycopy(scenes, next * SCENE_SIZE, scene.row, 0, SCENE_SIZE);
            }
        }
    }

    /** What prisoners said: of each the events that were, and that were not. */
    private static final class Witnesses {
        private final int[] were = new int[MOST_CELLS];
        private final int[] wereNot = new int[MOST_CELLS];
        private int sayings;

        void forget() {
            Arrays.fill(were, 0);
            Arrays.fill(wereNot, 0);
            sayings = 0;
        }

        void hear(int prisoner, int event, boolean was) {
            if (was) {
                were[prisoner] |= 1 << event;
            } else {
                wereNot[prisoner] |= 1 << event;
            }
            sayings++;
        }

        boolean spoke(int prisoner) {
            return (were[prisoner] | wereNot[prisoner]) != 0;
        }

        boolean lies(int prisoner, int truth) {
            return (were[prisoner] & ~truth | wereNot[prisoner] & truth) != 0;
        }

        int liarsBy(int truth) {
            int bits = 0;
            for (int prisoner = 0; prisoner < MOST_CELLS; prisoner++) {
                bits |= lies(prisoner, truth) ? 1 << prisoner : 0;
            }
            return bits;
        }
    }

    /** The search for the code with the least knocks. */
    private static final class Codebook {
        private int leastSum;
        private int digits;
        private boolean known;

        void forget() {
            known = false;
        }

        /** Once for a fort, as nothing that it goes by changes. */
        void search(Fort fort) {
            if (!known) {
                leastSum = Integer.MAX_VALUE;
                digits = 0;
                tryLengths(fort, 0, CODE_ROOM, 0, 0);
                known = true;
            }
        }

        /** Goes by rising digits and takes only what is less, so of several the least digits stay. */
        private void tryLengths(Fort fort, int event, int room, int sum, int before) {
            if (event >= fort.events) {
                leastSum = sum;
                digits = before;
                return;
            }
            int stillToCome = fort.events - event - 1;
            for (int length = 1; length <= MOST_CODE_LENGTH; length++) {
                int left = room - (CODE_ROOM >> length);
                int total = sum + length * fort.chance(event);
                if (left >= stillToCome && total < leastSum) {
                    tryLengths(fort, event + 1, left, total, 10 * before + length);
                }
            }
        }
    }
}
