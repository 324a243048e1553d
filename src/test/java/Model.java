import java.util.ArrayList;
import java.util.Arrays;
import java.util.List;

/** The document once more, in another way: as plain as can be, with the Java library, copies of all and brute force. */
final class Model {
    static final class Fault extends RuntimeException {
        private static final long serialVersionUID = 1L;
        final int what;
        final int place;

        Fault(int what, int place) {
            super(null, null, false, false);
            this.what = what;
            this.place = place;
        }
    }

    interface Expr {
        long eval(long[] names);
    }

    static final class Text {
        final Expr[] law = new Expr[4];
        final List<int[]> clauses = new ArrayList<>();
    }

    static final class Man implements Cloneable {
        int[] right = new int[8], wrong = new int[8], best = new int[8];
        boolean[] sung = new boolean[8];
        int tied = -1;
        boolean free;

        Man copy() {
            Man m = new Man();
            m.right = right.clone();
            m.wrong = wrong.clone();
            m.best = best.clone();
            m.sung = sung.clone();
            m.tied = tied;
            m.free = free;
            return m;
        }
    }

    static final class Held {
        List<Man> men = new ArrayList<>();
        int day, x;

        Held copy() {
            Held h = new Held();
            for (Man m : men) {
                h.men.add(m.copy());
            }
            h.day = day;
            h.x = x;
            return h;
        }
    }

    static final class World {
        List<Integer> worth = new ArrayList<>(), pride = new ArrayList<>(), smells = new ArrayList<>();
        boolean[][] leads = new boolean[8][8];
        List<int[]> done = new ArrayList<>();
        List<Text> texts = new ArrayList<>();
        int rule = -1, allowed;
        Held held = new Held();
        List<Held> steps = new ArrayList<>();

        World copy() {
            World w = new World();
            w.worth.addAll(worth);
            w.pride.addAll(pride);
            w.smells.addAll(smells);
            for (int i = 0; i < 8; i++) {
                w.leads[i] = leads[i].clone();
            }
            w.done.addAll(done);
            w.texts.addAll(texts);
            w.rule = rule;
            w.allowed = allowed;
            w.held = held.copy();
            for (Held h : steps) {
                w.steps.add(h.copy());
            }
            return w;
        }
    }

    World w = new World();
    World image;
    StringBuilder tape = new StringBuilder();
    boolean anyRead;
    int fault, place = -1;

    Model() {
        w.held.x = 73;
        image = w.copy();
    }

    boolean T(int t) {
        return t >= 0 && t < w.worth.size();
    }

    boolean M(int m) {
        return m >= 0 && m < w.pride.size();
    }

    boolean set(int bits, int size) {
        for (int i = 0; i < 32; i++) {
            if ((bits >>> i & 1) == 1 && i >= size) {
                return false;
            }
        }
        return true;
    }

    // ---- laws
    Expr law(int which) {
        return w.rule < 0 ? null : w.texts.get(w.rule).law[which];
    }

    long[] names(Held h, int m, int t, int k) {
        Man man = h.men.get(m);
        return new long[] {t, w.pride.get(m), man.right[t], man.wrong[t], w.worth.get(t), h.day, man.sung[t] ? 1 : 0, man.tied == t ? 1 : 0, k};
    }

    boolean has(Held h, int m, int t) {
        Expr e = law(0);
        return e == null ? h.men.get(m).right[t] > h.men.get(m).wrong[t] : e.eval(names(h, m, t, 0)) != 0;
    }

    int hasBits(Held h, int m) {
        int bits = 0;
        for (int t = 0; t < w.worth.size(); t++) {
            if (has(h, m, t)) {
                bits += 1 << t;
            }
        }
        return bits;
    }

    static int clamp(long v, int low, int high) {
        return (int) Math.max(low, Math.min(high, v));
    }

    int fades(Held h, int m, int t) {
        return law(1) == null ? 1 : clamp(law(1).eval(names(h, m, t, 0)), -9, 99);
    }

    int drops(Held h, int m, int t) {
        return law(2) == null ? 0 : clamp(law(2).eval(names(h, m, t, 0)), 0, 99);
    }

    int pushes(Held h, int m, int t, int k) {
        return law(3) == null ? k / 2 : clamp(law(3).eval(names(h, m, t, k)), 0, 99);
    }

    // ---- deeds on hands
    void right(Man m, int t, int v) {
        m.right[t] = clamp(v, 0, 99);
        m.best[t] = Math.max(m.best[t], m.right[t]);
    }

    void doMislead(Held h, int m, int t, int k) {
        Man man = h.men.get(m);
        man.wrong[t] = clamp(man.wrong[t] + k, 0, 99);
        if (!man.sung[t]) {
            right(man, t, man.right[t] - pushes(h, m, t, k));
        }
    }

    void doDrink(Held h, int m) {
        Man man = h.men.get(m);
        for (int t = 0; t < 8; t++) {
            if (!man.sung[t]) {
                right(man, t, man.right[t] - 3);
            }
        }
    }

    void fadeAll(Held h, int m) {
        Man man = h.men.get(m);
        for (int t = 0; t < w.worth.size(); t++) {
            int wrong = clamp(man.wrong[t] - drops(h, m, t), 0, 99);
            if (!man.sung[t]) {
                right(man, t, man.right[t] - fades(h, m, t));
            }
            man.wrong[t] = wrong;
        }
    }

    void doNight(Held h) {
        for (int m = 0; m < h.men.size(); m++) {
            if (!h.men.get(m).free) {
                fadeAll(h, m);
            }
        }
        h.day++;
        if (h.day % 30 == 0) {
            for (int m = 0; m < h.men.size(); m++) {
                if (Integer.bitCount(hasBits(h, m)) <= w.allowed) {
                    h.men.get(m).free = true;
                }
            }
        }
    }

    void step() {
        w.steps.add(w.held.copy());
        if (w.steps.size() > 30) {
            w.steps.remove(0);
        }
    }

    int countFree() {
        int n = 0;
        for (Man m : w.held.men) {
            n += m.free ? 1 : 0;
        }
        return n;
    }

    Man man(int m) {
        return w.held.men.get(m);
    }

    // ---- the face
    int turn(int worth) {
        if (worth < 1 || worth > 99 || w.worth.size() == 8) {
            return -1;
        }
        w.worth.add(worth);
        return w.worth.size() - 1;
    }

    boolean leads(int a, int b) {
        if (!T(a) || !T(b) || a == b || w.leads[a][b]) {
            return false;
        }
        return w.leads[a][b] = true;
    }

    int manOf(int pride) {
        if (pride < 0 || pride > 9 || w.pride.size() == 6) {
            return -1;
        }
        w.pride.add(pride);
        w.held.men.add(new Man());
        return w.pride.size() - 1;
    }

    int smell(int turns) {
        if (turns == 0 || !set(turns, w.worth.size()) || w.smells.size() == 6) {
            return -1;
        }
        w.smells.add(turns);
        return w.smells.size() - 1;
    }

    boolean allow(int n) {
        if (n < 0 || n > 8) {
            return false;
        }
        w.allowed = n;
        return true;
    }

    int teach(int m, int t, int k) {
        if (!M(m) || !T(t) || k < 1 || k > 99 || man(m).free || man(m).tied == t) {
            return -1;
        }
        step();
        right(man(m), t, man(m).right[t] + k);
        return man(m).right[t];
    }

    int mislead(int m, int t, int k) {
        if (!M(m) || !T(t) || k < 1 || k > 99 || man(m).free) {
            return -1;
        }
        step();
        doMislead(w.held, m, t, k);
        return man(m).right[t];
    }

    boolean drink(int m) {
        if (!M(m) || man(m).free) {
            return false;
        }
        step();
        doDrink(w.held, m);
        return true;
    }

    boolean sing(int m, int t, boolean is) {
        if (!M(m) || !T(t) || man(m).free || man(m).sung[t] == is) {
            return false;
        }
        step();
        man(m).sung[t] = is;
        return true;
    }

    boolean tie(int m, int t) {
        if (!M(m) || t != -1 && !T(t) || man(m).free || man(m).tied == t) {
            return false;
        }
        step();
        man(m).tied = t;
        return true;
    }

    int closure(int smells) {
        boolean[] in = new boolean[8];
        for (int s = 0; s < w.smells.size(); s++) {
            for (int t = 0; t < 8; t++) {
                if ((smells >> s & 1) == 1 && (w.smells.get(s) >> t & 1) == 1) {
                    reach(t, in);
                }
            }
        }
        int bits = 0;
        for (int t = 0; t < 8; t++) {
            bits += in[t] ? 1 << t : 0;
        }
        return bits;
    }

    void reach(int t, boolean[] in) {
        if (!in[t]) {
            in[t] = true;
            for (int u = 0; u < 8; u++) {
                if (w.leads[t][u]) {
                    reach(u, in);
                }
            }
        }
    }

    int smelt(int m, int s) {
        if (!M(m) || s < 0 || s >= w.smells.size() || man(m).free) {
            return -1;
        }
        step();
        int bits = closure(1 << s);
        for (int t = 0; t < 8; t++) {
            if ((bits >> t & 1) == 1) {
                man(m).right[t] = man(m).best[t];
            }
        }
        return bits;
    }

    int tried(int m) {
        if (!M(m) || man(m).free) {
            return -1;
        }
        step();
        int n = Integer.bitCount(hasBits(w.held, m));
        man(m).free = n <= w.allowed;
        return n;
    }

    int night(int n) {
        if (n < 1 || n > 60 || w.held.day + n > 999) {
            return -1;
        }
        for (int i = 0; i < n; i++) {
            step();
            doNight(w.held);
        }
        return countFree();
    }

    int draw(int m) {
        int d = w.held.x % m;
        w.held.x = (w.held.x * 281 + 179) % 30293;
        return d;
    }

    int winters(int seed, int n) {
        if (seed < 0 || seed > 9999 || n < 1 || n > 30 || w.pride.isEmpty() || w.worth.isEmpty()) {
            return -1;
        }
        step();
        w.held.x = seed * 2 + 73;
        for (int i = 0; i < n; i++) {
            int d = draw(6);
            if (d >= 4) {
                if (w.held.day < 999) {
                    doNight(w.held);
                }
            } else if (d == 3) {
                int m = draw(w.pride.size());
                if (!man(m).free) {
                    doDrink(w.held, m);
                }
            } else {
                int m = draw(w.pride.size());
                int t = draw(w.worth.size());
                if (d == 0) {
                    int k = 1 + draw(40);
                    if (!man(m).free && man(m).tied != t) {
                        right(man(m), t, man(m).right[t] + k);
                    }
                } else if (d == 1) {
                    int k = 1 + draw(40);
                    if (!man(m).free) {
                        doMislead(w.held, m, t, k);
                    }
                } else if (!man(m).free) {
                    man(m).sung[t] = !man(m).sung[t];
                }
            }
        }
        return countFree();
    }

    int feed(int... five) {
        if (tape.length() + 20 > 300) {
            return -1;
        }
        for (int v : five) {
            for (int s = 24; s >= 0; s -= 8) {
                tape.append((char) (v >>> s & 255));
            }
        }
        return tape.length();
    }

    int end(int n) {
        if (n < 0 || n > tape.length()) {
            return -1;
        }
        tape.setLength(n);
        return n;
    }

    int text() {
        if (w.texts.size() == 4) {
            return -1;
        }
        String read = tape.toString();
        tape.setLength(0);
        anyRead = true;
        try {
            Text text = new ModelParser(read).text();
            fault = 0;
            place = -1;
            w.texts.add(text);
            return w.texts.size() - 1;
        } catch (Fault f) {
            fault = f.what;
            place = f.place;
            return -1;
        }
    }

    int fault(int what) {
        if (!anyRead) {
            return -1;
        }
        return what == 0 ? fault : what == 1 ? place : -1;
    }

    boolean by(int t) {
        if (t != -1 && (t < 0 || t >= w.texts.size())) {
            return false;
        }
        w.rule = t;
        return true;
    }

    int played(int t) {
        if (t < 0 || t >= w.texts.size()) {
            return -2;
        }
        List<int[]> clauses = w.texts.get(t).clauses;
        for (int i = 0; i < clauses.size(); i++) {
            int[] c = clauses.get(i);
            boolean ok = true;
            switch (c[0]) {
                case 4: ok = teach(c[1], c[2], c[3]) != -1; break;
                case 5: ok = mislead(c[1], c[2], c[3]) != -1; break;
                case 6: ok = drink(c[1]); break;
                case 7: ok = M(c[1]) && T(c[2]) && sing(c[1], c[2], !man(c[1]).sung[c[2]]); break;
                case 8: ok = tie(c[1], c[2]); break;
                case 9: ok = smelt(c[2], c[1]) != -1; break;
                case 10: ok = tried(c[1]) != -1; break;
                case 11:
                    for (int n = 0; n < c[1] && ok; n++) {
                        ok = night(1) != -1;
                    }
                    break;
                default:
            }
            if (!ok) {
                return i;
            }
        }
        return -1;
    }

    int undo() {
        if (w.steps.isEmpty()) {
            return -1;
        }
        Held old = w.steps.remove(w.steps.size() - 1);
        while (old.men.size() < w.pride.size()) {
            old.men.add(new Man());
        }
        w.held = old;
        return w.steps.size();
    }

    int of(int m, int what) {
        if (!M(m)) {
            return -2;
        }
        int sung = 0;
        for (int t = 0; t < 8; t++) {
            sung += man(m).sung[t] ? 1 << t : 0;
        }
        switch (what) {
            case 0: return w.pride.get(m);
            case 1: return hasBits(w.held, m);
            case 2: return sung;
            case 3: return man(m).tied;
            case 4: return man(m).free ? 1 : 0;
            default: return -2;
        }
    }

    int hand(int m, int t, int what) {
        if (!M(m) || !T(t)) {
            return -100;
        }
        switch (what) {
            case 0: return man(m).right[t];
            case 1: return man(m).wrong[t];
            case 2: return man(m).best[t];
            case 3: return fades(w.held, m, t);
            case 4: return drops(w.held, m, t);
            default: return -100;
        }
    }

    int ofTurn(int t, int what) {
        if (!T(t) || what != 0 && what != 1) {
            return -1;
        }
        if (what == 0) {
            return w.worth.get(t);
        }
        int bits = 0;
        for (int u = 0; u < 8; u++) {
            bits += w.leads[t][u] ? 1 << u : 0;
        }
        return bits;
    }

    int foretold(int n, int m) {
        if (n < 1 || n > 60 || !M(m)) {
            return -1;
        }
        Held h = w.held.copy();
        for (int i = 0; i < n; i++) {
            doNight(h);
        }
        return hasBits(h, m);
    }

    int free(int n, int m) {
        if (n < 1 || n > 60 || !M(m)) {
            return -1;
        }
        Held h = w.held.copy();
        int nights = 0;
        while (!h.men.get(m).free) {
            if (nights == n) {
                return -1;
            }
            doNight(h);
            nights++;
        }
        return nights;
    }

    int lasts(int m, int t) {
        if (!M(m) || !T(t) || !has(w.held, m, t)) {
            return -1;
        }
        Held h = w.held.copy();
        for (int n = 1; n <= 200; n++) {
            doNight(h);
            if (!has(h, m, t)) {
                return n;
            }
        }
        return -1;
    }

    int wrongs(int m, int n, int k, int b, int i) {
        if (!M(m) || man(m).free || n < 1 || n > 4 || k < 1 || k > 99 || b < 0 || b > 8 || i < -1 || i >= n) {
            return -1;
        }
        int[] best = null;
        int fewest = 99;
        int[] plan = new int[n];
        int choices = w.worth.size() + 1;
        int plans = (int) Math.pow(choices, n);
        for (int p = 0; p < plans; p++) {
            int rest = p;
            int lessons = 0;
            for (int d = n - 1; d >= 0; d--) {
                plan[d] = rest % choices - 1;
                rest /= choices;
                lessons += plan[d] >= 0 ? 1 : 0;
            }
            if (lessons >= fewest) {
                continue;
            }
            Held h = w.held.copy();
            for (int d = 0; d < n; d++) {
                if (plan[d] >= 0) {
                    doMislead(h, m, plan[d], k);
                }
                fadeAll(h, m);
                h.day++;
            }
            if (Integer.bitCount(hasBits(h, m)) <= b) {
                fewest = lessons;
                best = plan.clone();
            }
        }
        if (best == null) {
            return -1;
        }
        return i == -1 ? fewest : best[i] == -1 ? 8 : best[i];
    }

    int done(int t, boolean right) {
        if (t == -1) {
            w.done = new ArrayList<>();
            return 0;
        }
        if (!T(t) || w.done.size() == 8) {
            return -2;
        }
        w.done = new ArrayList<>(w.done);
        w.done.add(new int[] {t, right ? 1 : 0});
        return w.done.size();
    }

    int sets(boolean shams, int i) {
        List<Integer> found = new ArrayList<>();
        int size = w.worth.size();
        next:
        for (int s = 0; s < 1 << size; s++) {
            for (int t = 0; t < size; t++) {
                boolean any = false, led = false;
                for (int u = 0; u < size; u++) {
                    any |= w.leads[u][t];
                    led |= w.leads[u][t] && (s >> u & 1) == 1;
                }
                if ((s >> t & 1) == 1 && any && !led) {
                    continue next;
                }
            }
            for (int[] d : w.done) {
                boolean in = (s >> d[0] & 1) == 1;
                if (d[1] == 1 && !in || d[1] == 0 && in && !shams) {
                    continue next;
                }
            }
            found.add(s);
        }
        return i == -1 ? found.size() : i >= 0 && i < found.size() ? found.get(i) : -1;
    }

    long shammed(int m, int p, int q, boolean low) {
        if (!M(m) || p < 0 || p > 10 || q < 0 || q > 10) {
            return -1;
        }
        java.math.BigInteger a = java.math.BigInteger.valueOf(p), b = java.math.BigInteger.valueOf(10 - p);
        for (int[] d : w.done) {
            if (has(w.held, m, d[0])) {
                a = a.multiply(java.math.BigInteger.valueOf(d[1] == 0 ? q : 10 - q));
                b = b.multiply(java.math.BigInteger.valueOf(d[1] == 0 ? 1 : 9));
            }
        }
        java.math.BigInteger all = a.add(b);
        if (all.signum() == 0 || a.signum() == 0) {
            return low ? 1 : 0;
        }
        java.math.BigInteger g = a.gcd(all);
        return (low ? all : a).divide(g).longValueExact();
    }

    int halves(int a, int b, int what) {
        if (!M(a) || !M(b) || a == b || what < 0 || what > 3) {
            return -1;
        }
        int bits = 0;
        for (int t = 0; t < w.worth.size(); t++) {
            boolean x = has(w.held, a, t), y = has(w.held, b, t);
            int which = x && y ? 2 : x ? 0 : y ? 1 : 3;
            bits += which == what ? 1 << t : 0;
        }
        return bits;
    }

    int back(int smells) {
        return set(smells, w.smells.size()) ? closure(smells) : -1;
    }

    int fewSmells(int turns) {
        if (!set(turns, w.worth.size())) {
            return -1;
        }
        for (int size = 0; size <= w.smells.size(); size++) {
            for (int s = 0; s < 1 << w.smells.size(); s++) {
                if (Integer.bitCount(s) == size && (closure(s) & turns) == turns) {
                    return s;
                }
            }
        }
        return -1;
    }

    static void orders(List<Integer> left, List<Integer> so, List<List<Integer>> out) {
        if (left.isEmpty()) {
            out.add(new ArrayList<>(so));
        }
        for (int i = 0; i < left.size(); i++) {
            List<Integer> rest = new ArrayList<>(left);
            so.add(rest.remove(i));
            orders(rest, so, out);
            so.remove(so.size() - 1);
        }
    }

    List<Integer> list(int bits) {
        List<Integer> l = new ArrayList<>();
        for (int t = 0; t < 8; t++) {
            if ((bits >> t & 1) == 1) {
                l.add(t);
            }
        }
        return l;
    }

    long trial(int m, int turns, int i) {
        int size = Integer.bitCount(turns);
        if (!M(m) || !set(turns, w.worth.size()) || size < 1 || size > 5 || i < -2 || i >= size) {
            return -100;
        }
        List<List<Integer>> all = new ArrayList<>();
        orders(list(turns), new ArrayList<>(), all);
        long least = Long.MAX_VALUE;
        List<Integer> best = null;
        long full = (long) Math.pow(100, size);
        for (List<Integer> o : all) {
            // Each way it can go: the first right one is the j-th, or none is.
            long cost = 0;
            for (int j = 0; j <= size; j++) {
                long chance = full;
                long paid = 0;
                for (int l = 0; l < size && l <= j; l++) {
                    int right = man(m).right[o.get(l)];
                    chance = chance / 100 * (l == j ? right : 100 - right);
                    paid += w.worth.get(o.get(l));
                }
                cost += chance * paid;
            }
            if (cost < least) {
                least = cost;
                best = o;
            }
        }
        java.math.BigInteger g = java.math.BigInteger.valueOf(least).gcd(java.math.BigInteger.valueOf(full));
        return i == -2 ? least / g.longValue() : i == -1 ? full / g.longValue() : best.get(i);
    }

    int told(int turns, int i) {
        int size = Integer.bitCount(turns);
        if (!set(turns, w.worth.size()) || size < 1 || size > 6 || i < -1 || i >= size) {
            return -1;
        }
        List<List<Integer>> all = new ArrayList<>();
        orders(list(turns), new ArrayList<>(), all);
        int count = 0;
        List<Integer> first = null;
        for (List<Integer> o : all) {
            boolean ok = true;
            for (int t : o) {
                boolean any = false, ahead = false;
                for (int u : o) {
                    if (w.leads[u][t]) {
                        any = true;
                        ahead |= o.indexOf(u) < o.indexOf(t);
                    }
                }
                ok &= !any || ahead;
            }
            if (ok) {
                count++;
                first = first == null ? o : first;
            }
        }
        return i == -1 ? count : first == null ? -1 : first.get(i);
    }

    int worthOf(int bits) {
        int sum = 0;
        for (int t : list(bits)) {
            sum += w.worth.get(t);
        }
        return sum;
    }

    int spies(int turns) {
        if (!set(turns, w.worth.size())) {
            return -1;
        }
        int[] best = null;
        for (int s = 0; s < 1 << w.pride.size(); s++) {
            int have = 0, worth = 0;
            for (int m : list(s)) {
                have |= hasBits(w.held, m);
                worth += worthOf(hasBits(w.held, m));
            }
            int[] key = {Integer.bitCount(s), -worth, s};
            if ((have & turns) == turns && (best == null || Arrays.compare(key, best) < 0)) {
                best = key;
            }
        }
        return best == null ? -1 : best[2];
    }

    int sold(int n) {
        if (n < 1 || n > 6) {
            return -1;
        }
        int most = 0;
        for (int s = 0; s < 1 << w.pride.size(); s++) {
            int have = 0;
            for (int m : list(s)) {
                have |= hasBits(w.held, m);
            }
            if (Integer.bitCount(s) <= n) {
                most = Math.max(most, worthOf(have));
            }
        }
        return most;
    }

    int image() {
        image = w.copy();
        return w.held.day;
    }

    int again() {
        w = image.copy();
        return w.held.day;
    }

    int about(int what) {
        int[] all = {w.worth.size(), w.pride.size(), w.smells.size(), w.held.day, w.held.x, w.texts.size(), w.rule, w.steps.size(), w.done.size(), w.allowed, tape.length()};
        return what >= 0 && what < all.length ? all[what] : -2;
    }
}
