import java.util.Random;

/** Draws texts: forts, laws, plans, and such as are spoiled by a few signs. */
final class Texts {
    private static final String SIGNS = "scvwlgbtmhxnpykde0123456789;:?|&!()[]=<>+-*/ z\u00ff";

    private Texts() {
    }

    private static String blanks(Random draws) {
        return draws.nextInt(30) == 0 ? " " : "";
    }

    private static void items(Random draws, StringBuilder text, String letters, int[] least, int[] most) {
        int[] order = draws.ints(2L * letters.length(), 0, letters.length()).distinct().toArray();
        int told = draws.nextInt(order.length + 1);
        for (int i = 0; i < told; i++) {
            int at = order[i];
            int value = least[at] + draws.nextInt(most[at] - least[at] + 1);
            text.append(letters.charAt(at)).append(blanks(draws));
            text.append(value < 10 && draws.nextInt(9) == 0 ? "0" : "").append(value).append(blanks(draws));
        }
    }

    static String fort(Random draws) {
        int cells = 2 + draws.nextInt(6);
        int events = 1 + draws.nextInt(6);
        int rules = draws.nextInt(4) == 0 ? 0 : 1;
        StringBuilder text = new StringBuilder();
        int left = cells + events + rules;
        int[] still = {rules, cells, events};
        while (left > 0) {
            int kind = draws.nextInt(3);
            if (still[kind] == 0) {
                continue;
            }
            still[kind]--;
            left--;
            text.append(blanks(draws)).append("scv".charAt(kind)).append(blanks(draws));
            if (kind == 0) {
                boolean low = draws.nextBoolean();
                items(draws, text, "wlgb", new int[] {0, 1, 1, 0}, new int[] {cells - 1, low ? 20 : 60, low ? 20 : 99, 9});
            } else if (kind == 1) {
                items(draws, text, "tmhxb", new int[5], new int[] {draws.nextBoolean() ? 5 : 30, 9, 10, 6, draws.nextBoolean() ? 9 : 99});
            } else {
                items(draws, text, "np", new int[] {1, 0}, new int[] {9, 10});
            }
            text.append(left > 0 ? ";" : "");
        }
        return text.toString();
    }

    static String law(Random draws) {
        int clauses = 1 + draws.nextInt(4);
        StringBuilder text = new StringBuilder();
        for (int i = 0; i < clauses; i++) {
            text.append(i > 0 ? ";" : "").append(blanks(draws)).append("y").append(blanks(draws)).append(":");
            if (draws.nextInt(3) > 0) {
                text.append(condition(draws, 0)).append("?");
            }
            text.append(sum(draws, 0));
        }
        return text.length() <= 240 ? text.toString() : law(draws);
    }

    private static String condition(Random draws, int depth) {
        StringBuilder text = new StringBuilder(unit(draws, depth));
        while (draws.nextInt(3) == 0) {
            text.append(draws.nextBoolean() ? "|" : "&").append(unit(draws, depth));
        }
        return text.toString();
    }

    private static String unit(Random draws, int depth) {
        int kind = draws.nextInt(6);
        if (kind == 0 && depth < 6) {
            return "!" + blanks(draws) + unit(draws, depth + 1);
        }
        if (kind == 1 && depth < 6) {
            return "(" + condition(draws, depth + 1) + ")";
        }
        return sum(draws, depth) + "=<>".charAt(draws.nextInt(3)) + sum(draws, depth);
    }

    private static String sum(Random draws, int depth) {
        StringBuilder text = new StringBuilder(atom(draws, depth));
        while (draws.nextInt(3) == 0) {
            text.append("+-*/".charAt(draws.nextInt(4))).append(blanks(draws)).append(atom(draws, depth));
        }
        return text.toString();
    }

    private static String atom(Random draws, int depth) {
        int kind = draws.nextInt(12);
        if (kind == 0 && depth < 6) {
            return "[" + sum(draws, depth + 1) + "]" + blanks(draws);
        }
        if (kind < 8) {
            return "tnmkdg".charAt(draws.nextInt(6)) + blanks(draws);
        }
        return String.valueOf(draws.nextInt(kind == 8 ? 10000 : 12));
    }

    static String plan(Random draws) {
        int steps = 1 + draws.nextInt(draws.nextBoolean() ? 5 : 16);
        StringBuilder text = new StringBuilder();
        for (int i = 0; i < steps; i++) {
            int kind = draws.nextInt(5);
            text.append(i > 0 ? ";" : "").append(blanks(draws)).append("smtce".charAt(kind)).append(blanks(draws));
            for (int digit = 0; digit < (kind == 0 ? 1 : kind == 1 ? 2 : 0); digit++) {
                text.append(draws.nextInt(draws.nextInt(9) == 0 ? 10 : 4)).append(blanks(draws));
            }
        }
        return text.toString();
    }

    static String spoiled(Random draws, String text) {
        StringBuilder other = new StringBuilder(text);
        int turns = 1 + draws.nextInt(2);
        for (int i = 0; i < turns; i++) {
            int at = draws.nextInt(other.length() + 1);
            char sign = SIGNS.charAt(draws.nextInt(SIGNS.length()));
            int kind = draws.nextInt(4);
            if (kind == 0 || at == other.length()) {
                other.insert(at, sign);
            } else if (kind == 1) {
                other.deleteCharAt(at);
            } else if (kind == 2) {
                other.setCharAt(at, sign);
            } else {
                other.setLength(at);
            }
        }
        return other.toString();
    }
}
