import java.util.ArrayList;
import java.util.List;
import java.util.regex.Matcher;
import java.util.regex.Pattern;

/** The language of texts once more: tokens by a pattern, clauses into trees, the first fault thrown. */
final class ModelParser {
    private static final Pattern TOKEN = Pattern.compile("[ \n]*+(?:([a-zA-Z]+)|([0-9]+)|(<=|>=|[<>=#+*/();-])|([^ \n]))", Pattern.DOTALL);
    private static final List<String> CLAUSES = List.of("has", "fades", "drops", "pushes", "teach", "mislead", "drink", "sing", "tie", "smell", "try", "night");
    private static final List<String> NAMES = List.of("turn", "pride", "right", "wrong", "worth", "day", "sung", "tied", "much");
    private static final String[] FORMS = {null, null, null, null, "M in T by K", "M in T by K", "M", "M of T", "M at T", "S by M", "M", "N"};

    private final List<String> tokens = new ArrayList<>();
    private final List<Integer> places = new ArrayList<>();
    private int at;
    private int law;

    ModelParser(String text) {
        Matcher m = TOKEN.matcher(text);
        int from = 0;
        while (m.find(from) && m.start() == from) {
            String token = m.group(1) != null ? m.group(1) : m.group(2) != null ? m.group(2) : m.group(3) != null ? m.group(3) : "?";
            tokens.add(token);
            places.add(m.end() - (token.equals("?") ? 1 : token.length()));
            from = m.end();
        }
        tokens.add("");
        places.add(text.length());
    }

    private String peek() {
        return tokens.get(at);
    }

    private Model.Fault fault(int what) {
        return new Model.Fault(what, places.get(at));
    }

    private void want(String token) {
        if (!peek().equals(token)) {
            throw fault(1);
        }
        at++;
    }

    private boolean isNumber() {
        return !peek().isEmpty() && Character.isDigit(peek().charAt(0));
    }

    private int number(int low, int high) {
        if (!isNumber()) {
            throw fault(1);
        }
        java.math.BigInteger v = new java.math.BigInteger(peek());
        if (v.compareTo(java.math.BigInteger.valueOf(low)) < 0 || v.compareTo(java.math.BigInteger.valueOf(high)) > 0) {
            throw fault(2);
        }
        at++;
        return v.intValue();
    }

    Model.Text text() {
        Model.Text text = new Model.Text();
        while (!peek().isEmpty()) {
            int kind = CLAUSES.indexOf(peek());
            if (kind < 0) {
                throw fault(1);
            }
            if (kind < 4 && text.law[kind] != null) {
                throw fault(4);
            }
            if (text.clauses.size() == 24) {
                throw fault(6);
            }
            at++;
            int[] clause = {kind, 0, 0, 0};
            law = kind;
            if (kind == 0) {
                text.law[0] = either();
            } else if (kind < 4) {
                text.law[kind] = sum(0);
            } else {
                deed(clause, FORMS[kind].split(" "));
            }
            want(";");
            text.clauses.add(clause);
        }
        return text;
    }

    private void deed(int[] clause, String[] form) {
        int n = 1;
        for (String part : form) {
            switch (part) {
                case "M": clause[n++] = number(0, 5); break;
                case "T": clause[n++] = number(0, 7); break;
                case "S": clause[n++] = number(0, 5); break;
                case "K": clause[n++] = number(1, 99); break;
                case "N": clause[n++] = number(1, 60); break;
                default: want(part);
            }
        }
    }

    private Model.Expr either() {
        Model.Expr left = both();
        while (peek().equals("or")) {
            at++;
            Model.Expr a = left, b = both();
            left = n -> a.eval(n) != 0 || b.eval(n) != 0 ? 1 : 0;
        }
        return left;
    }

    private Model.Expr both() {
        Model.Expr left = ask(0);
        while (peek().equals("and")) {
            at++;
            Model.Expr a = left, b = ask(0);
            left = n -> a.eval(n) != 0 && b.eval(n) != 0 ? 1 : 0;
        }
        return left;
    }

    private Model.Expr ask(int open) {
        if (peek().equals("not")) {
            if (open == 8) {
                throw fault(3);
            }
            at++;
            Model.Expr a = ask(open + 1);
            return n -> a.eval(n) != 0 ? 0 : 1;
        }
        Model.Expr a = sum(open);
        String sign = peek();
        if (!List.of("<", "<=", ">", ">=", "=", "#").contains(sign)) {
            throw fault(1);
        }
        at++;
        Model.Expr b = sum(open);
        return n -> {
            int c = Long.compare(a.eval(n), b.eval(n));
            boolean is = sign.equals("<") ? c < 0 : sign.equals("<=") ? c <= 0 : sign.equals(">") ? c > 0
                : sign.equals(">=") ? c >= 0 : sign.equals("=") ? c == 0 : c != 0;
            return is ? 1 : 0;
        };
    }

    private static long cut(long v) {
        return Math.max(-1000000, Math.min(1000000, v));
    }

    private Model.Expr sum(int open) {
        Model.Expr left = product(open);
        while (peek().equals("+") || peek().equals("-")) {
            boolean plus = peek().equals("+");
            at++;
            Model.Expr a = left, b = product(open);
            left = n -> cut(plus ? a.eval(n) + b.eval(n) : a.eval(n) - b.eval(n));
        }
        return left;
    }

    private Model.Expr product(int open) {
        Model.Expr left = one(open);
        while (peek().equals("*") || peek().equals("/")) {
            boolean times = peek().equals("*");
            at++;
            Model.Expr a = left, b = one(open);
            left = n -> {
                long x = a.eval(n), y = b.eval(n);
                return times ? cut(x * y) : y == 0 ? 0 : cut(x / y);
            };
        }
        return left;
    }

    private Model.Expr one(int open) {
        if (isNumber()) {
            int v = number(0, 9999);
            return n -> v;
        }
        int name = NAMES.indexOf(peek());
        if (name >= 0) {
            boolean in = name < 5 || name == 5 && (law == 1 || law == 2) || (name == 6 || name == 7) && law == 1 || name == 8 && law == 3;
            if (!in) {
                throw fault(5);
            }
            at++;
            return n -> n[name];
        }
        String sign = peek();
        if (!sign.equals("(") && !sign.equals("-") && !sign.equals("root")) {
            throw fault(1);
        }
        if (open == 8) {
            throw fault(3);
        }
        at++;
        if (sign.equals("(")) {
            Model.Expr a = sum(open + 1);
            want(")");
            return a;
        }
        Model.Expr a = one(open + 1);
        if (sign.equals("-")) {
            return n -> -a.eval(n);
        }
        return n -> {
            long v = a.eval(n), r = 0;
            while ((r + 1) * (r + 1) <= Math.abs(v)) {
                r++;
            }
            return v < 0 ? -r : r;
        };
    }
}
