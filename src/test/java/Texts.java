/** Makes OFFERS, right ones mostly, some with a token too many, too few, or another one. */
final class Texts {
    private static final String[] VALUES = {"unit", "quarter", "load", "true", "most"};
    private static final String[] ANY = {"price", "when", "not", "and", "or", "(", ")", ";", "+", "-", "*", "/", "<",
        "=", "7", "123456", "foo", "A", "unit", "((", "not not not not", "\t", ">", "#", "x"};
    private long seed;

    Texts(int number) {
        seed = number * 104729L + 17;
        below(2);
        below(2);
    }

    private int below(int n) {
        seed = seed * 6364136223846793005L + 1442695040888963407L;
        return (int) ((seed >>> 33) % n);
    }

    private boolean oneIn(int n) {
        return below(n) == 0;
    }

    String offer() {
        StringBuilder s = new StringBuilder();
        int clauses = oneIn(20) ? 7 + below(3) : 1 + below(3);
        for (int i = 0; i < clauses; i++) {
            boolean when = oneIn(4);
            s.append(when ? "when " : "price ");
            s.append(when && !oneIn(4) ? "unit<" + (2 + below(8)) : expr(clauses > 4 ? 3 : 0)).append(gap()).append(';');
            s.append(gap());
        }
        String text = s.toString();
        if (oneIn(4)) {
            text = broken(text);
        }
        if (oneIn(20)) {
            text = deep();
        }
        return text.length() > 200 ? text.substring(0, 200) : text;
    }

    private String deep() {
        int n = 4 + below(4);
        int k = 4 + below(4);
        return "price " + "(".repeat(n) + "not ".repeat(k) + (oneIn(2) ? "unit" : ANY[below(ANY.length)])
                + ")".repeat(n - (oneIn(9) ? 1 : 0)) + ";";
    }

    private String broken(String text) {
        int at = below(text.length() + 1);
        int end = Math.min(text.length(), at + below(3));
        String in = oneIn(2) ? " " + ANY[below(ANY.length)] + " " : ANY[below(ANY.length)];
        if (oneIn(5)) {
            return text.substring(0, at);
        }
        return text.substring(0, at) + (oneIn(3) ? "" : in) + text.substring(end);
    }

    private String gap() {
        return oneIn(3) ? " " : oneIn(9) ? "\n" : "";
    }

    private String expr(int depth) {
        String s = test(depth);
        while (oneIn(5)) {
            s += (oneIn(2) ? " and " : " or ") + test(depth);
        }
        return s;
    }

    private String test(int depth) {
        String s = oneIn(6) ? "not " : "";
        s += oneIn(20) ? "not not not " : "";
        s += sum(depth);
        return oneIn(5) ? s + (oneIn(2) ? "<" : "=") + sum(depth) : s;
    }

    private String sum(int depth) {
        String s = product(depth);
        while (oneIn(3)) {
            s += gap() + (oneIn(2) ? "+" : "-") + gap() + product(depth);
        }
        return s;
    }

    private String product(int depth) {
        String s = part(depth);
        while (oneIn(4)) {
            s += gap() + (oneIn(3) ? "/" : "*") + gap() + part(depth);
        }
        return s;
    }

    private String part(int depth) {
        if (depth < 5 && oneIn(6)) {
            return "(" + gap() + expr(depth + 1) + ")";
        }
        if (oneIn(2)) {
            return VALUES[below(5)];
        }
        return Integer.toString(oneIn(8) ? below(100000) : below(30));
    }
}
