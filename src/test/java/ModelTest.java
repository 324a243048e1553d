import java.util.Random;

/** Long runs of drawn calls, each answer beside the model's; no object is called more often than the 512 times of its promise. */
public final class ModelTest {
    private static final String[] WORDS = {"has", "fades", "drops", "pushes", "teach", "mislead", "drink", "sing", "tie", "smell", "try", "night",
        "turn", "pride", "right", "wrong", "worth", "day", "sung", "tied", "much", "or", "and", "not", "root", "in", "by", "of", "at",
        "<=", ">=", "<", ">", "=", "#", "+", "-", "*", "/", "(", ")", ";", "0", "1", "7", "12", "10000", "Has", "x", "!", "\t"};

    private static Random r;
    private static UnlearnedHand x;
    private static Model m;
    private static String log;
    private static boolean open;
    private static int calls;

    public static void main(String[] args) {
        int runs = args.length > 0 ? Integer.parseInt(args[0]) : 1600;
        int first = args.length > 1 ? Integer.parseInt(args[1]) : 0;
        for (int run = first; run < first + runs; run++) {
            r = new Random(run);
            x = new UnlearnedHand();
            m = new Model();
            log = "run " + run + ": ";
            open = r.nextInt(4) != 0;
            calls = 0;
            if (r.nextInt(10) != 0) {
                begin();
            }
            // The dearest look takes 77 calls.
            while (calls < 512 - 77) {
                call();
            }
        }
        Due.end();
    }

    private static void same(String call, long got, long want) {
        calls++;
        Due.is(log + call, got, want);
    }

    private static void same(String call, boolean got, boolean want) {
        calls++;
        Due.is(log + call, got, want);
    }

    private static int n(int from, int to) {
        return from + r.nextInt(to - from + 1);
    }

    private static int odd(int value) {
        return r.nextInt(60) == 0 ? r.nextInt() : value;
    }

    private static void begin() {
        int turns = n(1, 8), men = n(1, 6), smells = n(0, 6);
        for (int i = 0; i < turns; i++) {
            int worth = n(1, r.nextInt(3) == 0 ? 2 : 99);
            same("turn", x.turn(worth), m.turn(worth));
        }
        for (int i = 0; i < men; i++) {
            int pride = n(0, 9);
            same("man", x.man(pride), m.manOf(pride));
        }
        for (int i = 0; i < smells; i++) {
            int set = n(1, (1 << turns) - 1) & n(1, 255);
            same("smell", x.smell(set), m.smell(set));
        }
        for (int i = n(0, 10); i > 0; i--) {
            int a = n(0, turns - 1), b = n(0, turns - 1);
            same("leads", x.leads(a, b), m.leads(a, b));
        }
    }

    private static int man() {
        int men = m.w.pride.size();
        return r.nextInt(12) == 0 ? odd(n(-1, 6)) : n(0, Math.max(0, men - 1));
    }

    private static int turn() {
        int turns = m.w.worth.size();
        return r.nextInt(12) == 0 ? odd(n(-1, 8)) : n(0, Math.max(0, turns - 1));
    }

    private static int turnSet() {
        int set = n(0, (1 << m.w.worth.size()) - 1);
        return r.nextInt(15) == 0 ? odd(n(0, 256)) : r.nextBoolean() ? set : set & n(0, 255);
    }

    private static int k() {
        return r.nextInt(15) == 0 ? odd(n(-1, 101)) : n(1, r.nextBoolean() ? 99 : 20);
    }

    private static void call() {
        int a = man(), b = turn(), k = k();
        switch (r.nextInt(46)) {
            case 0: if (r.nextInt(6) == 0) { int v = odd(n(-1, 101)); same("turn(" + v + ")", x.turn(v), m.turn(v)); } break;
            case 1: { int c = turn(); if (r.nextInt(4) == 0) { same("leads(" + b + "," + c + ")", x.leads(b, c), m.leads(b, c)); } break; }
            case 2: if (r.nextInt(6) == 0) { int v = odd(n(-1, 10)); same("man(" + v + ")", x.man(v), m.manOf(v)); } break;
            case 3: if (r.nextInt(6) == 0) { int v = turnSet(); same("smell(" + v + ")", x.smell(v), m.smell(v)); } break;
            case 4: if (r.nextInt(3) == 0) { int v = odd(n(-1, open ? 2 : 9)); same("allow(" + v + ")", x.allow(v), m.allow(v)); } break;
            case 5: case 6: case 7: case 43: same("teach(" + a + "," + b + "," + k + ")", x.teach(a, b, k), m.teach(a, b, k)); break;
            case 8: case 9: same("mislead(" + a + "," + b + "," + k + ")", x.mislead(a, b, k), m.mislead(a, b, k)); break;
            case 10: same("drink(" + a + ")", x.drink(a), m.drink(a)); break;
            case 11: { boolean is = r.nextBoolean(); same("sing(" + a + "," + b + "," + is + ")", x.sing(a, b, is), m.sing(a, b, is)); break; }
            case 12: { int t = r.nextInt(3) == 0 ? -1 : b; same("tie(" + a + "," + t + ")", x.tie(a, t), m.tie(a, t)); break; }
            case 13: { int s = n(-1, 6); same("smelt(" + a + "," + s + ")", x.smelt(a, s), m.smelt(a, s)); break; }
            case 14: if (r.nextInt(4) == 0) { same("tried(" + a + ")", x.tried(a), m.tried(a)); } break;
            case 15: { int v = r.nextInt(8) == 0 ? odd(n(-1, 61)) : n(1, 4); same("night(" + v + ")", x.night(v), m.night(v)); break; }
            case 16: { int s = odd(n(0, 9999)), v = r.nextInt(8) == 0 ? odd(n(-1, 31)) : n(1, 8); same("winters(" + s + "," + v + ")", x.winters(s, v), m.winters(s, v)); break; }
            case 17: case 44: case 45: text(); break;
            case 18: { int v = odd(n(-1, 2)); same("fault(" + v + ")", x.fault(v), m.fault(v)); break; }
            case 19: { int v = odd(n(-1, 4)); same("by(" + v + ")", x.by(v), m.by(v)); break; }
            case 20: { int v = odd(n(-1, 4)); same("played(" + v + ")", x.played(v), m.played(v)); break; }
            case 21: case 22: for (int i = n(1, 3); i > 0; i--) { same("undo()", x.undo(), m.undo()); } break;
            case 23: look(); break;
            case 24: { int v = odd(n(-1, 2)); same("ofTurn(" + b + "," + v + ")", x.ofTurn(b, v), m.ofTurn(b, v)); break; }
            case 25: { int v = odd(n(0, 61)); same("foretold(" + v + "," + a + ")", x.foretold(v, a), m.foretold(v, a)); break; }
            case 26: { int v = odd(n(0, 61)); same("free(" + v + "," + a + ")", x.free(v, a), m.free(v, a)); break; }
            case 27: same("lasts(" + a + "," + b + ")", x.lasts(a, b), m.lasts(a, b)); break;
            case 28: wrongs(a, k); break;
            case 29: { boolean is = r.nextInt(3) != 0; int t = r.nextInt(8) == 0 ? -1 : b; same("done(" + t + "," + is + ")", x.done(t, is), m.done(t, is)); break; }
            case 30: { boolean is = r.nextBoolean(); int i = odd(n(-2, 12)); same("sets(" + is + "," + i + ")", x.sets(is, i), m.sets(is, i)); break; }
            case 31: { int p = odd(n(-1, 11)), q = odd(n(-1, 11)); boolean is = r.nextBoolean(); same("shammed(" + a + "," + p + "," + q + "," + is + ")", x.shammed(a, p, q, is), m.shammed(a, p, q, is)); break; }
            case 32: { int c = man(), v = odd(n(-1, 4)); same("halves(" + a + "," + c + "," + v + ")", x.halves(a, c, v), m.halves(a, c, v)); break; }
            case 33: { int v = odd(n(0, 64)); same("back(" + v + ")", x.back(v), m.back(v)); break; }
            case 34: { int v = turnSet(); same("fewSmells(" + v + ")", x.fewSmells(v), m.fewSmells(v)); break; }
            case 35: { int v = turnSet(), i = odd(n(-3, 5)); same("trial(" + a + "," + v + "," + i + ")", x.trial(a, v, i), m.trial(a, v, i)); break; }
            case 36: { int v = turnSet(), i = odd(n(-2, 6)); same("told(" + v + "," + i + ")", x.told(v, i), m.told(v, i)); break; }
            case 37: { int v = turnSet(); same("spies(" + v + ")", x.spies(v), m.spies(v)); break; }
            case 38: { int v = odd(n(0, 7)); same("sold(" + v + ")", x.sold(v), m.sold(v)); break; }
            case 39: if (r.nextInt(3) == 0) { same("image()", x.image(), m.image()); } break;
            case 40: if (r.nextInt(4) == 0) { same("again()", x.again(), m.again()); } break;
            case 41: for (int v = -1; v <= 11; v++) { same("about(" + v + ")", x.about(v), m.about(v)); } break;
            default: if (r.nextInt(40) == 0) { for (int i = 0; i < 16; i++) { same("night(60)", x.night(60), m.night(60)); } } break;
        }
    }

    private static void look() {
        int a = man();
        for (int v = -1; v <= 5; v++) {
            same("of(" + a + "," + v + ")", x.of(a, v), m.of(a, v));
        }
        for (int b = -1; b <= m.w.worth.size(); b++) {
            for (int v = -1; v <= 5; v++) {
                same("hand(" + a + "," + b + "," + v + ")", x.hand(a, b, v), m.hand(a, b, v));
            }
        }
    }

    private static void wrongs(int a, int k) {
        int n = odd(n(0, 5)), b = odd(n(0, r.nextInt(5) == 0 ? 9 : 3));
        if (n == 4 && r.nextInt(3) != 0) {
            n = 3;
        }
        for (int i = -1; i < Math.min(n, 5); i++) {
            same("wrongs(" + a + "," + n + "," + k + "," + b + "," + i + ")", x.wrongs(a, n, k, b, i), m.wrongs(a, n, k, b, i));
        }
    }

    private static void text() {
        int way = r.nextInt(12);
        String text = way < 8 ? goodText() : way == 8 ? wildText() : way == 9 ? spoilt(goodText()) : way == 10 ? manyClauses() : bytes();
        if (text.length() > 300 && r.nextInt(4) != 0) {
            text = text.substring(0, text.lastIndexOf(';', 299) + 1);
        }
        for (int i = 0; i < text.length(); i += 20) {
            int[] f = Due.five(text, i);
            same("feed", x.feed(f[0], f[1], f[2], f[3], f[4]), m.feed(f));
        }
        int end = r.nextInt(20) == 0 ? odd(n(-1, 301)) : text.length();
        same("end(" + end + ")", x.end(end), m.end(end));
        if (r.nextInt(15) != 0) {
            same("text() of " + text, x.text(), m.text());
            same("fault(0) of " + text, x.fault(0), m.fault(0));
            same("fault(1) of " + text, x.fault(1), m.fault(1));
            int last = m.w.texts.size() - 1;
            if (r.nextBoolean()) {
                same("by(" + last + ")", x.by(last), m.by(last));
            }
        }
    }

    private static String goodText() {
        StringBuilder s = new StringBuilder();
        int laws = r.nextInt(16);
        for (int i = n(0, 6); i > 0; i--) {
            s.append(deed());
        }
        for (int law = 0; law < 4; law++) {
            if ((laws >> law & 1) == 1) {
                s.append(law == 0 ? "has " + either() : WORDS[law] + " " + sum(n(0, 3), law)).append(r.nextInt(4) == 0 ? " ;\n" : ";");
                if (r.nextInt(3) == 0) {
                    s.append(deed());
                }
            }
        }
        return s.toString();
    }

    private static String deed() {
        int a = r.nextInt(20) == 0 ? n(0, 7) : n(0, Math.max(0, m.w.pride.size() - 1));
        int b = r.nextInt(20) == 0 ? n(0, 9) : n(0, Math.max(0, m.w.worth.size() - 1));
        int k = r.nextInt(20) == 0 ? n(0, 101) : n(1, 40);
        switch (r.nextInt(9)) {
            case 0: case 1: return "teach " + a + " in " + b + " by " + k + ";";
            case 2: return "mislead " + a + " in " + b + " by " + k + ";";
            case 3: return "drink " + a + ";";
            case 4: return "sing " + a + " of " + b + ";";
            case 5: return "tie " + a + " at " + b + ";";
            case 6: return "smell " + n(0, r.nextInt(9) == 0 ? 6 : 2) + " by " + a + ";";
            case 7: return r.nextInt(4) == 0 ? "try " + a + ";" : "";
            default: return "night " + n(r.nextInt(9) == 0 ? 0 : 1, r.nextInt(9) == 0 ? 61 : 5) + ";";
        }
    }

    private static String either() {
        StringBuilder s = new StringBuilder(ask());
        for (int i = n(0, 2); i > 0; i--) {
            s.append(r.nextBoolean() ? " or " : " and ").append(ask());
        }
        return s.toString();
    }

    private static String ask() {
        String[] signs = {"<", "<=", ">", ">=", "=", "#"};
        return (r.nextInt(4) == 0 ? "not ".repeat(n(1, r.nextInt(9) == 0 ? 9 : 2)) : "") + sum(n(0, 2), 0) + signs[r.nextInt(6)] + sum(n(0, 1), 0);
    }

    private static String sum(int deep, int law) {
        if (deep == 0) {
            String[] names = {"turn pride right wrong worth right wrong", "turn pride right wrong worth day sung tied day", "turn pride right wrong worth day wrong", "turn pride right wrong worth much much"};
            String[] own = names[law].split(" ");
            return r.nextInt(3) == 0 ? "" + n(0, r.nextInt(5) == 0 ? 9999 : 12) : r.nextInt(60) == 0 ? WORDS[n(12, 20)] : own[r.nextInt(own.length)];
        }
        switch (r.nextInt(7)) {
            case 0: return "(" + sum(deep - 1, law) + ")";
            case 1: return "-" + sum(deep - 1, law);
            case 2: return "root " + sum(deep - 1, law);
            case 3: return sum(deep - 1, law) + "+" + sum(deep - 1, law);
            case 4: return sum(deep - 1, law) + " - " + sum(deep - 1, law);
            case 5: return sum(deep - 1, law) + "*" + sum(deep - 1, law);
            default: return sum(deep - 1, law) + "/" + sum(deep - 1, law);
        }
    }

    private static String wildText() {
        StringBuilder s = new StringBuilder(r.nextBoolean() ? "has " : "fades ");
        for (int i = n(0, 20); i > 0; i--) {
            s.append(WORDS[r.nextInt(WORDS.length)]).append(r.nextInt(3) == 0 ? "" : " ");
        }
        return s.toString();
    }

    private static String spoilt(String text) {
        StringBuilder s = new StringBuilder(text);
        for (int i = n(1, 2); i > 0 && s.length() > 0; i--) {
            int at = r.nextInt(s.length());
            switch (r.nextInt(3)) {
                case 0: s.deleteCharAt(at); break;
                case 1: s.insert(at, WORDS[r.nextInt(WORDS.length)]); break;
                default: s.insert(at, "(-root(-(((-(".substring(0, n(1, 12)));
            }
        }
        return s.toString();
    }

    private static String manyClauses() {
        StringBuilder s = new StringBuilder();
        for (int i = n(22, 26); i > 0; i--) {
            s.append(r.nextBoolean() ? "try 0;" : "night 1;");
            if (r.nextInt(20) == 0) {
                s.append("drops 1;");
            }
        }
        return s.toString();
    }

    private static String bytes() {
        StringBuilder s = new StringBuilder();
        for (int i = n(0, 30); i > 0; i--) {
            s.append((char) r.nextInt(256));
        }
        return s.toString();
    }
}
