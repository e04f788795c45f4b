import java.util.ArrayList;
import java.util.Arrays;
import java.util.List;

/**
 * The document read a second time, in the plainest way and without the class's means: texts are looked at sign by
 * sign and worked out from their letters each time, each act keeps a whole copy. ModelTest holds the class against it.
 */
final class Model {
    private static final int NONE = -1;
    private static final int HIDDEN = -1000000;

    /** How a day stands. */
    private static final class Stand {
        int[] sits;
        int[] bread;
        int[] mirror;
        int[] knows;
        int seen;
        int heard;
        int learnt;
        int day;
        boolean told;
        List<int[]> log = new ArrayList<>();

        Stand copy() {
            Stand other = new Stand();
            other.sits = sits.clone();
            other.bread = bread.clone();
            other.mirror = mirror.clone();
            other.knows = knows.clone();
            other.seen = seen;
            other.heard = heard;
            other.learnt = learnt;
            other.day = day;
            other.told = told;
            other.log = new ArrayList<>(log);
            return other;
        }

        void change(int one, int other) {
            for (int cell = 0; cell < sits.length; cell++) {
                sits[cell] = sits[cell] == one ? other : sits[cell] == other ? one : sits[cell];
            }
        }

        boolean sees(int event) {
            return (seen & 1 << event) != 0;
        }
    }

    private String tape = "";
    private int[] rules;
    private List<int[]> cells = new ArrayList<>();
    private List<int[]> events = new ArrayList<>();
    private Stand now = new Stand();
    private List<Stand> acts = new ArrayList<>();
    private Stand image;
    private List<int[]> sayings = new ArrayList<>();
    private final List<String> laws = new ArrayList<>();
    private final List<String> plans = new ArrayList<>();
    private int holds = NONE;
    private int guarding = 0;

    // ---- texts

    int feed(int a, int b, int c, int d, int e) {
        StringBuilder more = new StringBuilder(tape);
        for (int number : new int[] {a, b, c, d, e}) {
            for (int i = 3; i >= 0; i--) {
                char one = (char) (number >> 8 * i & 255);
                if (one != 0) {
                    more.append(one);
                }
            }
        }
        if (more.length() > 240) {
            return NONE;
        }
        tape = more.toString();
        return tape.length();
    }

    boolean end(int n) {
        if (n < 0 || n > tape.length()) {
            return false;
        }
        tape = tape.substring(0, n);
        return true;
    }

    int fault(int sort) {
        switch (sort) {
            case 0: return fortFault(tape);
            case 1: return lawFault(tape);
            case 2: return planFault(tape);
            default: return -2;
        }
    }

    int text(int sort) {
        if (sort < 0 || sort > 2 || fault(sort) != NONE) {
            return NONE;
        }
        if (sort == 0) {
            openFort(tape.replace(" ", ""));
            tape = "";
            return cells.size();
        }
        List<String> list = sort == 1 ? laws : plans;
        if (list.size() == 4) {
            return NONE;
        }
        list.add(tape.replace(" ", ""));
        tape = "";
        return list.size() - 1;
    }

    private static String lettersOf(char clause) {
        return clause == 's' ? "wlgb" : clause == 'c' ? "tmhxb" : "np";
    }

    private static int[] usualOf(char clause) {
        return clause == 's' ? new int[] {0, 20, 40, 1} : clause == 'c' ? new int[] {4, 3, 9, 6, 5} : new int[] {3, 5};
    }

    private static boolean inBounds(String item, int value) {
        String[] bounds = {"sw 0 6", "sl 1 60", "sg 1 99", "sb 0 9", "ct 0 30", "cm 0 9", "ch 0 10", "cx 0 6", "cb 0 99",
            "vn 1 9", "vp 0 10"};
        for (String bound : bounds) {
            String[] parts = bound.split(" ");
            if (parts[0].equals(item)) {
                return value >= Integer.parseInt(parts[1]) && value <= Integer.parseInt(parts[2]);
            }
        }
        throw new IllegalStateException(item);
    }

    /** Clause by clause and item by item, on marks: 0 a clause must come, 1 an item or ; may, 2 a digit must, 3 in a number. */
    private static int fortFault(String text) {
        int mark = 0;
        char clause = 0;
        char letter = 0;
        String had = "";
        String digits = "";
        int lastDigit = 0;
        int window = 0;
        int[] told = new int[3];
        for (int i = 0; i <= text.length(); i++) {
            char sign = i < text.length() ? text.charAt(i) : 0;
            if (mark == 3) {
                if (Character.isDigit(sign) && sign < 128) {
                    if (digits.length() == 2) {
                        return i;
                    }
                    digits += sign;
                    lastDigit = i;
                    continue;
                }
                if (!inBounds("" + clause + letter, Integer.parseInt(digits))) {
                    return lastDigit;
                }
                window = clause == 's' && letter == 'w' ? Integer.parseInt(digits) : window;
                mark = 1;
            }
            if (i == text.length()) {
                break;
            }
            if (sign == ' ') {
                continue;
            }
            if (mark == 0) {
                int kind = "scv".indexOf(sign);
                if (kind < 0 || told[kind] == new int[] {1, 7, 6}[kind]) {
                    return i;
                }
                told[kind]++;
                clause = sign;
                had = "";
                mark = 1;
            } else if (mark == 1 && sign == ';') {
                mark = 0;
            } else if (mark == 1) {
                if (lettersOf(clause).indexOf(sign) < 0 || had.indexOf(sign) >= 0) {
                    return i;
                }
                letter = sign;
                had += sign;
                mark = 2;
            } else {
                if (sign < '0' || sign > '9') {
                    return i;
                }
                digits = "" + sign;
                lastDigit = i;
                mark = 3;
            }
        }
        return mark != 1 || told[1] < 2 || told[2] < 1 || window >= told[1] ? text.length() : NONE;
    }

    /** What is open within a clause of a law: ( or [ or the clause itself (y), how far its unit is, and its ! signs. */
    private static final class Open {
        final char sign;
        /** u it may be a condition's or the worth, l left of a comparison, r right of it, d a unit in ( ), w the worth. */
        char part;
        int nots;

        Open(char sign, char part) {
            this.sign = sign;
            this.part = part;
        }
    }

    private static int depth(List<Open> open) {
        int sum = open.size() - 1;
        for (Open one : open) {
            sum += one.nots;
        }
        return sum;
    }

    private static int lawFault(String text) {
        List<Open> open = new ArrayList<>();
        // Y y must come, C : must, U a unit or a sum must, A an atom must, H behind an atom, 1 .. 4 so many digits
        char mark = 'Y';
        for (int i = 0; i < text.length(); i++) {
            char sign = text.charAt(i);
            boolean digit = sign >= '0' && sign <= '9';
            if (mark >= '1' && mark <= '4') {
                if (digit && mark == '4') {
                    return i;
                }
                mark = digit ? (char) (mark + 1) : 'H';
                if (digit) {
                    continue;
                }
            }
            if (sign == ' ') {
                continue;
            }
            if (mark == 'Y' || mark == 'C') {
                if (sign != (mark == 'Y' ? 'y' : ':')) {
                    return i;
                }
                mark = mark == 'Y' ? 'C' : 'U';
                open.clear();
                open.add(new Open('y', 'u'));
            } else if (mark == 'U' || mark == 'A') {
                Open top = open.get(open.size() - 1);
                boolean deeper = sign == '[' || mark == 'U' && (sign == '(' || sign == '!');
                if (deeper && depth(open) == 6) {
                    return i;
                }
                if (deeper && sign != '[') {
                    top.part = 'l';
                }
                if (sign == '!' && deeper) {
                    top.nots++;
                } else if (deeper) {
                    open.add(new Open(sign, sign == '(' ? 'l' : 'w'));
                    mark = sign == '(' ? 'U' : 'A';
                } else if (digit) {
                    mark = '1';
                } else if ("tnmkdg".indexOf(sign) >= 0) {
                    mark = 'H';
                } else {
                    return i;
                }
            } else {
                mark = behindAtom(open, sign);
                if (mark == 'F') {
                    return i;
                }
            }
        }
        boolean behind = mark == 'H' || mark >= '1' && mark <= '4';
        char part = open.isEmpty() ? 'l' : open.get(0).part;
        return behind && open.size() == 1 && (part == 'u' || part == 'w') ? NONE : text.length();
    }

    /** The mark behind a sign that stands behind an atom or a unit; F: it can't stand there. */
    private static char behindAtom(List<Open> open, char sign) {
        Open top = open.get(open.size() - 1);
        boolean unitEnds = top.part == 'r' || top.part == 'd';
        if ("+-*/".indexOf(sign) >= 0) {
            return top.part == 'd' ? 'F' : 'A';
        }
        if ("=<>".indexOf(sign) >= 0) {
            boolean can = top.part == 'u' || top.part == 'l';
            top.part = 'r';
            return can ? 'A' : 'F';
        }
        if (sign == '&' || sign == '|') {
            top.part = 'l';
            top.nots = 0;
            return unitEnds ? 'U' : 'F';
        }
        if (sign == '?') {
            top.part = 'w';
            top.nots = 0;
            return unitEnds && top.sign == 'y' ? 'A' : 'F';
        }
        if (sign == ';') {
            return top.sign == 'y' && (top.part == 'u' || top.part == 'w') ? 'Y' : 'F';
        }
        boolean closes = sign == ']' && top.sign == '[' || sign == ')' && top.sign == '(' && unitEnds;
        if (!closes) {
            return 'F';
        }
        open.remove(open.size() - 1);
        if (sign == ')') {
            open.get(open.size() - 1).part = 'd';
        }
        return 'H';
    }

    private static int planFault(String text) {
        int steps = 0;
        int digits = 0;
        boolean fresh = true;
        for (int i = 0; i < text.length(); i++) {
            char sign = text.charAt(i);
            if (sign == ' ') {
                continue;
            }
            if (fresh) {
                if ("smtce".indexOf(sign) < 0) {
                    return i;
                }
                digits = sign == 's' ? 1 : sign == 'm' ? 2 : 0;
                fresh = false;
                steps++;
            } else if (digits > 0) {
                if (sign < '0' || sign > '9') {
                    return i;
                }
                digits--;
            } else {
                if (sign != ';' || steps == 16) {
                    return i;
                }
                fresh = true;
            }
        }
        return fresh || digits > 0 ? text.length() : NONE;
    }

    private void openFort(String text) {
        rules = usualOf('s');
        cells = new ArrayList<>();
        events = new ArrayList<>();
        for (String clause : text.split(";")) {
            int[] items = usualOf(clause.charAt(0));
            for (int i = 1; i < clause.length(); i++) {
                int at = lettersOf(clause.charAt(0)).indexOf(clause.charAt(i));
                if (at >= 0) {
                    int last = i + 1;
                    while (last < clause.length() && Character.isDigit(clause.charAt(last))) {
                        last++;
                    }
                    items[at] = Integer.parseInt(clause.substring(i + 1, last));
                }
            }
            switch (clause.charAt(0)) {
                case 's': rules = items; break;
                case 'c': cells.add(items); break;
                default: events.add(items);
            }
        }
        int n = cells.size();
        now = new Stand();
        now.sits = new int[n];
        now.bread = new int[n];
        now.mirror = new int[n];
        now.knows = new int[n];
        for (int i = 0; i < n; i++) {
            now.sits[i] = i;
            now.bread[i] = cells.get(i)[4];
        }
        acts = new ArrayList<>();
        image = null;
        sayings = new ArrayList<>();
    }

    // ---- laws

    private static int held(long value) {
        return value > 1000000 ? 1000000 : value < -1000000 ? -1000000 : (int) value;
    }

    /** Where the last of some signs stands outside of all ( and [. */
    private static int lastOutside(String text, String signs) {
        int depth = 0;
        for (int i = text.length() - 1; i >= 0; i--) {
            char sign = text.charAt(i);
            depth += sign == ')' || sign == ']' ? 1 : sign == '(' || sign == '[' ? -1 : 0;
            if (depth == 0 && signs.indexOf(sign) >= 0) {
                return i;
            }
        }
        return NONE;
    }

    private static int sum(String text, int[] letters) {
        int at = lastOutside(text, "+-");
        at = at == NONE ? lastOutside(text, "*/") : at;
        if (at != NONE) {
            long left = sum(text.substring(0, at), letters);
            long right = sum(text.substring(at + 1), letters);
            switch (text.charAt(at)) {
                case '+': return held(left + right);
                case '-': return held(left - right);
                case '*': return held(left * right);
                default: return right == 0 ? 0 : held(left / right);
            }
        }
        if (text.charAt(0) == '[') {
            return sum(text.substring(1, text.length() - 1), letters);
        }
        int letter = "tnmkdg".indexOf(text.charAt(0));
        return letter >= 0 ? letters[letter] : Integer.parseInt(text);
    }

    private static boolean condition(String text, int[] letters) {
        for (String joint : new String[] {"|", "&"}) {
            int at = lastOutside(text, joint);
            if (at != NONE) {
                boolean left = condition(text.substring(0, at), letters);
                boolean right = condition(text.substring(at + 1), letters);
                return joint.equals("|") ? left || right : left && right;
            }
        }
        if (text.charAt(0) == '!') {
            return !condition(text.substring(1), letters);
        }
        if (text.charAt(0) == '(') {
            return condition(text.substring(1, text.length() - 1), letters);
        }
        int at = lastOutside(text, "=<>");
        int left = sum(text.substring(0, at), letters);
        int right = sum(text.substring(at + 1), letters);
        char sign = text.charAt(at);
        return sign == '=' ? left == right : sign == '<' ? left < right : left > right;
    }

    private static int worth(String law, int[] letters) {
        for (String clause : law.split(";")) {
            String text = clause.substring(2);
            int at = text.indexOf('?');
            if (at < 0 || condition(text.substring(0, at), letters)) {
                return sum(text.substring(at + 1), letters);
            }
        }
        return 0;
    }

    // ---- knocks

    private int[] strengths(Stand stand, int event, int from) {
        int[] strength = new int[cells.size()];
        strength[from] = rules[1];
        for (int way = -1; way <= 1; way += 2) {
            int left = rules[1];
            for (int cell = from + way; cell >= 0 && cell < cells.size(); cell += way) {
                int thick = cells.get(Math.min(cell, cell - way))[0];
                int takes = thick;
                if (holds != NONE) {
                    int merit = cells.get(stand.sits[cell])[1];
                    int[] letters = {thick, events.get(event)[0], merit, event, stand.day, stand.learnt};
                    takes = Math.min(99, Math.max(0, worth(laws.get(holds), letters)));
                }
                left -= takes;
                if (left <= 0) {
                    break;
                }
                strength[cell] = left;
            }
        }
        return strength;
    }

    private List<Integer> hearers(Stand stand, int event, int from) {
        int[] strength = strengths(stand, event, from);
        List<Integer> who = new ArrayList<>();
        for (int cell = 0; cell < cells.size(); cell++) {
            if (cell != from && strength[cell] > 0) {
                who.add(stand.sits[cell]);
            }
        }
        return who;
    }

    private static int bits(List<Integer> list) {
        int bits = 0;
        for (int one : list) {
            bits |= 1 << one;
        }
        return bits;
    }

    /** Which events each hears, as it is told; bread and what guards learn change in the stand. */
    private int[] telling(Stand stand, int cost, boolean codeHolds) {
        int teller = stand.sits[rules[0]];
        int[] heard = new int[cells.size()];
        for (int event = 0; event < events.size(); event++) {
            if (!stand.sees(event) || cells.get(teller)[3] == event) {
                continue;
            }
            if (!codeHolds && stand.learnt >= rules[2]) {
                break;
            }
            for (int who : hearers(stand, event, rules[0])) {
                heard[who] |= 1 << event;
                if (stand.bread[who] >= cost) {
                    stand.bread[who] -= cost;
                    stand.bread[teller] += cost;
                }
            }
            stand.learnt += events.get(event)[0];
        }
        return heard;
    }

    private void tellNow(Stand stand) {
        int[] heard = telling(stand, rules[3], false);
        stand.heard = 0;
        for (int i = 0; i < heard.length; i++) {
            stand.heard += Integer.bitCount(heard[i]);
            stand.knows[i] |= heard[i] | stand.mirror[i] & stand.seen;
        }
        stand.knows[stand.sits[rules[0]]] |= stand.seen;
        stand.told = true;
    }

    // ---- steps

    private boolean isFort() {
        return !cells.isEmpty();
    }

    private boolean isPrisoner(int prisoner) {
        return prisoner >= 0 && prisoner < cells.size();
    }

    private boolean isEvent(int event) {
        return event >= 0 && event < events.size();
    }

    private int richest(Stand stand) {
        int most = Arrays.stream(stand.bread).max().getAsInt();
        for (int i = 0; i < stand.bread.length; i++) {
            if (stand.bread[i] == most) {
                return i;
            }
        }
        return NONE;
    }

    private boolean can(Stand stand, String step) {
        int first = step.length() > 1 ? step.charAt(1) - '0' : NONE;
        int second = step.length() > 2 ? step.charAt(2) - '0' : NONE;
        switch (step.charAt(0)) {
            case 's': return isEvent(first) && !stand.sees(first);
            case 'm': return isPrisoner(first) && isPrisoner(second) && first != second;
            case 't': return !stand.told && stand.learnt < rules[2];
            case 'c': return stand.bread[richest(stand)] >= 2;
            default: return stand.day < 9999;
        }
    }

    private void go(Stand stand, String step) {
        int first = step.length() > 1 ? step.charAt(1) - '0' : NONE;
        int second = step.length() > 2 ? step.charAt(2) - '0' : NONE;
        switch (step.charAt(0)) {
            case 's': stand.seen |= 1 << first; break;
            case 'm': stand.change(first, second); break;
            case 't': tellNow(stand); break;
            case 'c':
                stand.bread[richest(stand)] -= 2;
                stand.learnt = 0;
                break;
            default:
                stand.log.add(0, new int[] {stand.seen, stand.heard, stand.learnt});
                stand.seen = 0;
                stand.heard = 0;
                stand.told = false;
                stand.knows = new int[cells.size()];
                stand.day++;
        }
    }

    private void keep() {
        acts.add(now.copy());
        if (acts.size() > 40) {
            acts.remove(0);
        }
    }

    private boolean act(String step) {
        if (!isFort() || !can(now, step)) {
            return false;
        }
        keep();
        go(now, step);
        return true;
    }

    // ---- the face

    int rule(int what) {
        return isFort() && what >= 0 && what < 4 ? rules[what] : NONE;
    }

    int prisoner(int prisoner, int what) {
        if (!isPrisoner(prisoner) || what < 0 || what > 6) {
            return Tester.THROWS;
        }
        int out = cells.get(prisoner)[3];
        int cell = 0;
        while (now.sits[cell] != prisoner) {
            cell++;
        }
        return new int[] {cell, cells.get(prisoner)[1], cells.get(prisoner)[2], isEvent(out) ? out : NONE,
            now.bread[prisoner], now.knows[prisoner], now.mirror[prisoner]}[what];
    }

    int cell(int cell, int what) {
        return !isPrisoner(cell) || what < 0 || what > 1 ? NONE : what == 0 ? cells.get(cell)[0] : now.sits[cell];
    }

    int event(int event, int what) {
        if (!isEvent(event) || what < 0 || what > 2) {
            return NONE;
        }
        return what < 2 ? events.get(event)[what] : now.sees(event) ? 1 : 0;
    }

    boolean law(int law) {
        if (law != NONE && (law < 0 || law >= laws.size())) {
            return false;
        }
        holds = law;
        return true;
    }

    boolean guards(int v) {
        if (v < 0 || v > 9 || v == guarding) {
            return false;
        }
        guarding = v;
        return true;
    }

    int see(int event) {
        return event >= 0 && event <= 9 && act("s" + event) ? now.seen : NONE;
    }

    int tell() {
        return act("t") ? now.heard : NONE;
    }

    int move(int one, int other) {
        return isPrisoner(one) && isPrisoner(other) && act("m" + one + other) ? now.sits[rules[0]] : NONE;
    }

    boolean mirror(int prisoner, int set) {
        if (!isPrisoner(prisoner) || set < 0 || set >> events.size() != 0 || now.mirror[prisoner] == set) {
            return false;
        }
        keep();
        now.mirror[prisoner] = set;
        return true;
    }

    int code() {
        int payer = isFort() ? richest(now) : NONE;
        return act("c") ? payer : NONE;
    }

    int days(int n) {
        if (!isFort() || n < 1 || n > 60 || now.day + n > 9999) {
            return NONE;
        }
        for (int i = 0; i < n; i++) {
            act("e");
        }
        return now.day;
    }

    int years(int n, long seed) {
        if (!isFort() || n < 1 || n > 60 || now.day + n > 9999) {
            return NONE;
        }
        long[] x = {seed};
        for (int i = 0; i < n; i++) {
            keep();
            for (int event = 0; event < events.size(); event++) {
                if (!now.sees(event) && draw(x) < events.get(event)[1]) {
                    go(now, "s" + event);
                }
            }
            if (can(now, "t")) {
                go(now, "t");
            }
            if (draw(x) < guarding) {
                int teller = now.sits[rules[0]];
                int other = NONE;
                for (int who = cells.size() - 1; who >= 0; who--) {
                    if (who != teller && (other == NONE || cells.get(who)[1] >= cells.get(other)[1])) {
                        other = who;
                    }
                }
                now.change(teller, other);
            }
            go(now, "e");
        }
        return now.day;
    }

    private static int draw(long[] x) {
        x[0] = x[0] * 6364136223846793005L + 1442695040888963407L;
        return (int) Long.remainderUnsigned(x[0] >>> 33, 10);
    }

    int undo() {
        if (acts.isEmpty()) {
            return NONE;
        }
        now = acts.remove(acts.size() - 1);
        return acts.size();
    }

    int log(int i, int what) {
        return i < 0 || i >= Math.min(60, now.log.size()) || what < 0 || what > 2 ? NONE : now.log.get(i)[what];
    }

    private String stepOf(int plan, int i) {
        String[] steps = plan < 0 || plan >= plans.size() ? new String[0] : plans.get(plan).split(";");
        return i < 0 || i >= steps.length ? null : steps[i];
    }

    int step(int plan, int i, int what) {
        String step = stepOf(plan, i);
        if (step == null || what < 0 || what > 2) {
            return HIDDEN;
        }
        return what == 0 ? "smtce".indexOf(step.charAt(0)) : what < step.length() ? step.charAt(what) - '0' : NONE;
    }

    int run(int plan, int what) {
        if (stepOf(plan, 0) == null || what < 0 || what > 1 || !isFort()) {
            return HIDDEN;
        }
        Stand apart = now.copy();
        int done = 0;
        while (stepOf(plan, done) != null && can(apart, stepOf(plan, done))) {
            go(apart, stepOf(plan, done));
            done++;
        }
        return what == 1 ? apart.bread[apart.sits[rules[0]]] : stepOf(plan, done) == null ? NONE : done;
    }

    int perform(int plan) {
        if (stepOf(plan, 0) == null || !isFort()) {
            return NONE;
        }
        int done = 0;
        while (stepOf(plan, done) != null && act(stepOf(plan, done))) {
            done++;
        }
        return done;
    }

    int far(int event, int cell) {
        return isEvent(event) && isPrisoner(cell) ? strengths(now, event, rules[0])[cell] : NONE;
    }

    int wall(int event, int side) {
        if (!isEvent(event) || side < 0 || side > 1) {
            return NONE;
        }
        int[] strength = strengths(now, event, rules[0]);
        int cell = rules[0];
        while (true) {
            int next = side == 0 ? cell - 1 : cell + 1;
            if (!isPrisoner(next)) {
                return NONE;
            }
            if (strength[next] == 0) {
                return cell;
            }
            cell = next;
        }
    }

    private int got(Stand stand, int cost) {
        int teller = stand.sits[rules[0]];
        int had = stand.bread[teller];
        telling(stand, cost, true);
        return stand.bread[teller] - had;
    }

    int seat(int prisoner) {
        if (!isPrisoner(prisoner)) {
            return NONE;
        }
        Stand apart = now.copy();
        if (apart.sits[rules[0]] != prisoner) {
            apart.change(apart.sits[rules[0]], prisoner);
        }
        return got(apart, rules[3]);
    }

    int best() {
        int best = isFort() ? 0 : NONE;
        for (int i = 1; i < cells.size(); i++) {
            best = seat(i) > seat(best) ? i : best;
        }
        return best;
    }

    int codes(int what) {
        if (!isFort() || what < 0 || what > 1) {
            return NONE;
        }
        int n = events.size();
        int[] lengths = new int[n];
        Arrays.fill(lengths, 1);
        int best = Integer.MAX_VALUE;
        int digits = 0;
        while (true) {
            int room = 0;
            int sum = 0;
            int number = 0;
            for (int i = 0; i < n; i++) {
                room += 32 >> lengths[i];
                sum += lengths[i] * events.get(i)[1];
                number = number * 10 + lengths[i];
            }
            if (room <= 32 && sum < best) {
                best = sum;
                digits = number;
            }
            int at = n - 1;
            while (at >= 0 && lengths[at] == 5) {
                lengths[at] = 1;
                at--;
            }
            if (at < 0) {
                return what == 0 ? digits : best;
            }
            lengths[at]++;
        }
    }

    int said(int prisoner, int event, boolean was) {
        if (!isPrisoner(prisoner) || !isEvent(event) || sayings.size() == 16) {
            return NONE;
        }
        sayings.add(new int[] {prisoner, event, was ? 1 : 0});
        return sayings.size();
    }

    private int lying(int truth) {
        int bits = 0;
        for (int[] saying : sayings) {
            bits |= (truth >> saying[1] & 1) == saying[2] ? 0 : 1 << saying[0];
        }
        return bits;
    }

    private List<Integer> truthsOf(int v) {
        List<Integer> list = new ArrayList<>();
        for (int truth = 0; isFort() && truth < 1 << events.size(); truth++) {
            if (Integer.bitCount(lying(truth)) <= v) {
                list.add(truth);
            }
        }
        return list;
    }

    int least() {
        if (!isFort()) {
            return NONE;
        }
        int v = 0;
        while (truthsOf(v).isEmpty()) {
            v++;
        }
        return v;
    }

    private boolean isDoubt(int v) {
        return isFort() && v >= 0 && v <= 7;
    }

    int truths(int v, int i) {
        if (!isDoubt(v)) {
            return NONE;
        }
        List<Integer> list = truthsOf(v);
        return i == NONE ? list.size() : i < 0 || i >= list.size() ? NONE : list.get(i);
    }

    private static int yes(List<Integer> list, int event) {
        int yes = 0;
        for (int truth : list) {
            yes += truth >> event & 1;
        }
        return yes;
    }

    int sure(int v, int what) {
        if (!isDoubt(v) || what < 0 || what > 1 || truthsOf(v).isEmpty()) {
            return NONE;
        }
        int bits = 0;
        for (int event = 0; event < events.size(); event++) {
            bits |= yes(truthsOf(v), event) == (what == 0 ? truthsOf(v).size() : 0) ? 1 << event : 0;
        }
        return bits;
    }

    int ask(int v) {
        if (!isDoubt(v) || truthsOf(v).isEmpty()) {
            return NONE;
        }
        int all = truthsOf(v).size();
        int best = 0;
        for (int event = 1; event < events.size(); event++) {
            int apart = Math.abs(all - 2 * yes(truthsOf(v), event));
            best = apart < Math.abs(all - 2 * yes(truthsOf(v), best)) ? event : best;
        }
        return best;
    }

    int liars() {
        if (!isFort()) {
            return NONE;
        }
        int bits = -1;
        for (int truth : truthsOf(least())) {
            bits &= lying(truth);
        }
        return bits;
    }

    int belief(int event) {
        if (!isEvent(event)) {
            return NONE;
        }
        java.math.BigInteger all = java.math.BigInteger.ZERO;
        java.math.BigInteger part = java.math.BigInteger.ZERO;
        for (int truth = 0; truth < 1 << events.size(); truth++) {
            java.math.BigInteger weight = java.math.BigInteger.ONE;
            for (int i = 0; i < events.size(); i++) {
                int p = events.get(i)[1];
                weight = weight.multiply(java.math.BigInteger.valueOf((truth >> i & 1) == 1 ? p : 10 - p));
            }
            int spoke = 0;
            for (int[] saying : sayings) {
                spoke |= 1 << saying[0];
            }
            for (int i = 0; i < cells.size(); i++) {
                int honest = cells.get(i)[2];
                boolean lies = (lying(truth) >> i & 1) == 1;
                if ((spoke >> i & 1) == 1) {
                    weight = weight.multiply(java.math.BigInteger.valueOf(lies ? 10 - honest : honest));
                }
            }
            all = all.add(weight);
            part = (truth >> event & 1) == 1 ? part.add(weight) : part;
        }
        if (all.signum() == 0) {
            return NONE;
        }
        return part.multiply(java.math.BigInteger.valueOf(1000000)).divide(all).intValue();
    }

    int trust(int cell) {
        if (!isPrisoner(cell)) {
            return NONE;
        }
        int bits = 0;
        for (int i = 0; i < cells.size(); i++) {
            boolean between = i > cell && i < rules[0] || i < cell && i > rules[0];
            bits |= between ? 1 << now.sits[i] : 0;
        }
        return bits;
    }

    int escape(int set, int event) {
        if (!isEvent(event) || set < 0 || set >> cells.size() != 0) {
            return NONE;
        }
        int best = NONE;
        int fewest = 99;
        for (int cell = 0; cell < cells.size(); cell++) {
            List<Integer> who = hearers(now, event, cell);
            boolean all = true;
            for (int i = 0; i < cells.size(); i++) {
                all &= (set >> i & 1) == 0 || i == now.sits[cell] || who.contains(i);
            }
            int others = Integer.bitCount(bits(who) & ~set);
            if (all && others < fewest) {
                best = cell;
                fewest = others;
            }
        }
        return best;
    }

    int wears() {
        if (!isFort()) {
            return NONE;
        }
        Stand apart = now.copy();
        for (int day = 0; day <= 99; day++) {
            if (apart.learnt >= rules[2]) {
                return day;
            }
            apart.seen = (1 << events.size()) - 1;
            telling(apart, 0, true);
        }
        return NONE;
    }

    int listen(int event) {
        return isEvent(event) ? bits(hearers(now, event, rules[0])) : NONE;
    }

    int merits() {
        if (!isFort()) {
            return NONE;
        }
        int number = 0;
        for (int merit = 9; merit >= 0; merit--) {
            for (int i = 0; i < cells.size(); i++) {
                number = cells.get(i)[1] == merit ? number * 10 + i : number;
            }
        }
        return number;
    }

    int swap(int what) {
        if (!isFort() || what < 0 || what > 1) {
            return NONE;
        }
        int best = NONE;
        int most = NONE;
        for (int pair = 0; pair < 77; pair++) {
            if (pair / 10 < pair % 10 && isPrisoner(pair % 10)) {
                Stand apart = now.copy();
                apart.change(pair / 10, pair % 10);
                int got = got(apart, rules[3]);
                best = got > most ? pair : best;
                most = Math.max(got, most);
            }
        }
        return what == 0 ? best : most;
    }

    int quiet() {
        for (int knocks = 1; knocks <= 9; knocks++) {
            for (int event = 0; event < events.size(); event++) {
                if (events.get(event)[0] == knocks) {
                    return event;
                }
            }
        }
        return NONE;
    }

    int rich() {
        return isFort() ? richest(now) : NONE;
    }

    int most() {
        for (int n = 6; n >= 0; n--) {
            for (int i = 0; i < cells.size(); i++) {
                if (Integer.bitCount(now.knows[i]) == n) {
                    return i;
                }
            }
        }
        return NONE;
    }

    int price(int what) {
        if (!isFort() || what < 0 || what > 1) {
            return NONE;
        }
        int best = 0;
        for (int cost = 1; cost <= 9; cost++) {
            best = got(now.copy(), cost) > got(now.copy(), best) ? cost : best;
        }
        return what == 0 ? best : got(now.copy(), best);
    }

    int buys(int one, int other, int x, int y) {
        boolean are = isPrisoner(one) && isPrisoner(other) && one != other;
        if (!are || one == now.sits[rules[0]] || other == now.sits[rules[0]] || x < 0 || x > 1 || y < 0 || y > 1) {
            return HIDDEN;
        }
        int[] heard = telling(now.copy(), 0, true);
        int has = 0;
        for (int event = 0; event < events.size(); event++) {
            if ((heard[one] >> event & 1) == 1 && x == 1) {
                has += 3 - rules[3];
                has -= y == 1 && (heard[other] >> event & 1) == 1 ? 1 : 0;
            }
        }
        return has;
    }

    int rests(int one, int other, int i) {
        if (buys(one, other, 0, 0) == HIDDEN) {
            return NONE;
        }
        List<Integer> list = new ArrayList<>();
        for (int pair : new int[] {0, 1, 10, 11}) {
            int x = pair / 10;
            int y = pair % 10;
            boolean better = buys(one, other, 1 - x, y) > buys(one, other, x, y);
            boolean otherBetter = buys(other, one, 1 - y, x) > buys(other, one, y, x);
            if (!better && !otherBetter) {
                list.add(pair);
            }
        }
        return i == NONE ? list.size() : i < 0 || i >= list.size() ? NONE : list.get(i);
    }

    int image() {
        if (!isFort()) {
            return NONE;
        }
        image = now.copy();
        return now.day;
    }

    int back() {
        if (image == null) {
            return NONE;
        }
        now = image.copy();
        acts = new ArrayList<>();
        return now.day;
    }

    int count(int what) {
        if (what < 0 || what > 15) {
            return HIDDEN;
        }
        return new int[] {cells.size(), events.size(), laws.size(), plans.size(), tape.length(), holds, now.day,
            isFort() ? now.sits[rules[0]] : NONE, now.seen, now.told ? 1 : 0, now.learnt,
            isFort() ? Arrays.stream(now.bread).sum() : 0, guarding, sayings.size(), Math.min(60, now.log.size()),
            acts.size()}[what];
    }
}
