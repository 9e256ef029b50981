import java.util.ArrayList;
import java.util.List;

/** OFFERS for the Model: faults by a machine of states, what is asked by reading the text each time. */
final class Words {
    private final List<String> tokens = new ArrayList<>();
    private final List<Integer> places = new ArrayList<>();
    private int at;
    private int unit, quarter, load, cost, most;

    private Words(String text) {
        int i = 0;
        while (i < text.length()) {
            char ch = text.charAt(i);
            if (ch == ' ' || ch == '\n') {
                i++;
                continue;
            }
            int end = i + 1;
            if (isLetter(ch)) {
                while (end < text.length() && isLetter(text.charAt(end))) {
                    end++;
                }
            } else if (isDigit(ch)) {
                while (end < text.length() && isDigit(text.charAt(end))) {
                    end++;
                }
            }
            tokens.add(text.substring(i, end));
            places.add(i);
            i = end;
        }
        tokens.add("");
        places.add(text.length());
    }

    private static boolean isLetter(char ch) {
        return ch >= 'a' && ch <= 'z';
    }

    private static boolean isDigit(char ch) {
        return ch >= '0' && ch <= '9';
    }

    private static boolean isWord(String t) {
        return !t.isEmpty() && isLetter(t.charAt(0));
    }

    private static boolean isNumber(String t) {
        return !t.isEmpty() && isDigit(t.charAt(0));
    }

    private static boolean isValue(String t) {
        return List.of("unit", "quarter", "load", "true", "most").contains(t);
    }

    /** The FAULT and its place; 0 and -1 without. */
    static int[] fault(String text) {
        Words w = new Words(text);
        int clauses = 0;
        boolean inClause = false;
        boolean wantsPart = false;
        boolean first = false;
        boolean notMay = false;
        int nots = 0;
        List<Boolean> compared = new ArrayList<>();
        for (int i = 0;; i++) {
            String t = w.tokens.get(i);
            int place = w.places.get(i);
            int depth = compared.size() - 1;
            if (!inClause) {
                if (t.isEmpty() && clauses > 0) {
                    return new int[] {0, -1};
                }
                if (!t.equals("price") && !t.equals("when")) {
                    return new int[] {1, place};
                }
                if (++clauses > 8) {
                    return new int[] {2, place};
                }
                inClause = true;
                compared.clear();
                compared.add(false);
                wantsPart = first = notMay = true;
                nots = 0;
            } else if (wantsPart) {
                if (first && depth > 5) {
                    return new int[] {isNumber(t) || isWord(t) || t.equals("(") ? 2 : 1, place};
                }
                first = false;
                if (t.equals("not") && notMay) {
                    if (++nots == 7) {
                        return new int[] {2, place};
                    }
                } else if (isNumber(t)) {
                    if (t.length() > 5) {
                        return new int[] {2, place};
                    }
                    wantsPart = false;
                } else if (isWord(t)) {
                    if (!isValue(t)) {
                        return new int[] {3, place};
                    }
                    wantsPart = false;
                } else if (t.equals("(")) {
                    compared.add(false);
                    first = notMay = true;
                    nots = 0;
                } else {
                    return new int[] {1, place};
                }
            } else if (t.length() == 1 && "+-*/".contains(t)) {
                wantsPart = true;
                notMay = false;
            } else if ((t.equals("<") || t.equals("=")) && !compared.get(depth)) {
                compared.set(depth, true);
                wantsPart = true;
                notMay = false;
            } else if (t.equals("and") || t.equals("or")) {
                compared.set(depth, false);
                wantsPart = notMay = true;
                nots = 0;
            } else if (t.equals(")") && depth > 0) {
                compared.remove(depth);
            } else if (t.equals(";") && depth == 0) {
                inClause = false;
            } else {
                return new int[] {1, place};
            }
        }
    }

    /** What is ASKED of one unit by a text without a FAULT; -1: a 'when' is 0. */
    static int ask(String text, int unit, int quarter, int load, int cost, int most) {
        Words w = new Words(text);
        w.unit = unit;
        w.quarter = quarter;
        w.load = load;
        w.cost = cost;
        w.most = most;
        int sum = 0;
        boolean offered = true;
        while (!w.tokens.get(w.at).isEmpty()) {
            String head = w.tokens.get(w.at++);
            int v = w.level(0);
            w.at++;
            if (head.equals("price")) {
                sum += v;
            } else {
                offered &= v != 0;
            }
        }
        return !offered ? -1 : sum < 0 ? 0 : sum > 9999 ? 9999 : sum;
    }

    private static final List<List<String>> LEVELS = List.of(List.of("or"), List.of("and"), List.of("not"),
            List.of("<", "="), List.of("+", "-"), List.of("*", "/"));

    private int level(int n) {
        if (n == 6) {
            return part();
        }
        if (n == 2) {
            if (tokens.get(at).equals("not")) {
                at++;
                return level(2) == 0 ? 1 : 0;
            }
            return level(3);
        }
        int v = level(n + 1);
        while (LEVELS.get(n).contains(tokens.get(at))) {
            String op = tokens.get(at++);
            int other = level(n + 1);
            v = apply(op, v, other);
        }
        return v;
    }

    private static int apply(String op, int a, int b) {
        switch (op) {
            case "or":
                return a != 0 || b != 0 ? 1 : 0;
            case "and":
                return a != 0 && b != 0 ? 1 : 0;
            case "<":
                return a < b ? 1 : 0;
            case "=":
                return a == b ? 1 : 0;
            case "+":
                return (int) ((long) a + b);
            case "-":
                return (int) ((long) a - b);
            case "*":
                return (int) ((long) a * b);
            default:
                return b == 0 ? 0 : (int) ((long) a / b);
        }
    }

    private int part() {
        String t = tokens.get(at++);
        switch (t) {
            case "unit":
                return unit;
            case "quarter":
                return quarter;
            case "load":
                return load;
            case "true":
                return cost;
            case "most":
                return most;
            case "(":
                int v = level(0);
                at++;
                return v;
            default:
                return Integer.parseInt(t);
        }
    }
}
