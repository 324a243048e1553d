/** The edges of promises 18, 20 and 24 in what laws say: values, their bounds, the laws' least and greatest. */
public final class LawsEdgesTest {
    public static void main(String[] args) {
        order();
        million();
        millionAtEachStep();
        parted();
        roots();
        compared();
        bothSides();
        deepest();
        namesAtTheirEdges();
        namesInHas();
        namesInPushes();
        leastAndGreatest();
        without();
        hand();
        Due.end();
    }

    /** The value of a sum, seen by steps of the window that has leaves: whether it is like the number that is due. */
    private static void value(String sentence, String sum, int due) {
        String number = due == 1000000 ? "(9999*9999)" : due == -1000000 ? "(-9999*9999)" : due > 9999 ? "(" + due / 1000 + "*1000+" + due % 1000 + ")"
            : due < -9999 ? "(-" + -due / 1000 + "*1000-" + -due % 1000 + ")" : due < 0 ? "-" + -due : "" + due;
        UnlearnedHand x = Made.turnsAndMen(1, 1);
        Due.is("P18 text of " + sum, Due.text(x, "has " + sum + "=" + number + ";"), 0);
        x.by(0);
        Due.is("P18 " + sentence + ": " + sum + " is " + due, x.of(0, 1), 1);
        UnlearnedHand y = Made.turnsAndMen(1, 1);
        Due.text(y, "has " + sum + ">" + number + " or " + sum + "<" + number + ";");
        y.by(0);
        Due.is("P18 " + sentence + ": " + sum + " is nothing else than " + due, y.of(0, 1), 0);
    }

    private static void order() {
        value("From the left", "9-3-2", 4);
        value("From the left", "9-3+2", 8);
        value("From the left", "80/4/5", 4);
        value("From the left", "80/4*5", 100);
        value("From the left", "7/2*2", 6);
        value("From the left", "2*7/2", 7);
        value("PRODUCTS ahead of SUMS", "1+2*3", 7);
        value("PRODUCTS ahead of SUMS", "2*3+1", 7);
        value("PRODUCTS ahead of SUMS", "20-3*4-1", 7);
        value("PRODUCTS ahead of SUMS", "20-12/4-1", 16);
        value("brackets ahead of all", "(1+2)*3", 9);
        value("brackets ahead of all", "9-(3-2)", 8);
        value("- of one ONE alone", "-2+5", 3);
        value("- of one ONE alone", "-2*-3", 6);
        value("- of one ONE alone", "5--2", 7);
        value("- of one ONE alone", "---2", -2);
        value("root of one ONE alone", "root 16+9", 13);
        value("root of one ONE alone", "root 4*9", 18);
        value("root of one ONE alone", "root(4*9)", 6);
        value("root of one ONE alone", "root root 81", 3);
        value("root of -, - of root", "root -16", -4);
        value("root of -, - of root", "-root 16", -4);
    }

    private static void million() {
        value("1000000 isn't above", "1000*1000", 1000000);
        value("999999", "1000*1000-1", 999999);
        value("above 1000000 is that", "1000*1000+1", 1000000);
        value("above 1000000 is that", "1000*1000+9999", 1000000);
        value("above 1000000 is that", "1001*1000", 1000000);
        value("above 1000000 is that", "9999*9999", 1000000);
        value("999999 and 1", "999*1001+1", 1000000);
        value("999999 and 2", "999*1001+2", 1000000);
        value("below, the same less", "-1000*1000", -1000000);
        value("below, the same less", "-999*1001", -999999);
        value("below, the same less", "-1000*1000-1", -1000000);
        value("below, the same less", "0-999*1001-1", -1000000);
        value("below, the same less", "0-999*1001-2", -1000000);
        value("below, the same less", "-9999*9999", -1000000);
        value("- of the most", "-(1000*1000)", -1000000);
        value("- of the least", "-(-1000*1000)", 1000000);
        value("the most times the most", "(9999*9999)*(9999*9999)", 1000000);
        value("the most times the least", "(9999*9999)*(-9999*9999)", -1000000);
        value("the least times the least", "(-9999*9999)*(-9999*9999)", 1000000);
        value("a product that would wrap around", "(1000*1000)*4295", 1000000);
        value("a product that would wrap around", "(1000*1000)*(-1*2148)", -1000000);
    }

    private static void millionAtEachStep() {
        value("at each step", "1000*1000+1-1", 999999);
        value("at each step", "1000*1001-1", 999999);
        value("at each step", "1000*1001/2", 500000);
        value("at each step", "1000*1000*2/2", 500000);
        value("at each step", "0-1000*1001+1", -999999);
        value("at each step, in brackets", "(1000*1001)-(1000*1001)", 0);
        value("at each step, from the left", "5-1000*1000-9+9", -999991);
        value("at each step, under root", "root(9999*9999)", 1000);
        value("at each step, under root", "root(-9999*9999)", -1000);
    }

    private static void parted() {
        value("/ cuts towards 0", "7/2", 3);
        value("/ cuts towards 0", "-7/2", -3);
        value("/ cuts towards 0", "7/-2", -3);
        value("/ cuts towards 0", "-7/-2", 3);
        value("/ cuts towards 0", "1/2", 0);
        value("/ cuts towards 0", "-1/2", 0);
        value("/ cuts towards 0", "1999/1000", 1);
        value("/ cuts towards 0", "-1999/1000", -1);
        value("/ by 1", "9999/1", 9999);
        value("/ by -1", "9999/-1", -9999);
        value("/ by itself", "9999/9999", 1);
        value("by 0 it is 0", "7/0", 0);
        value("by 0 it is 0", "-7/0", 0);
        value("by 0 it is 0", "0/0", 0);
        value("by 0 it is 0", "(9999*9999)/(3-3)", 0);
        value("by 0 it is 0, then more", "7/0+5", 5);
        value("by 0 it is 0, then by more", "7/0/0*3+1", 1);
        value("by what is cut to 0", "7/(1/2)", 0);
    }

    private static void roots() {
        for (int root = 0; root <= 12; root++) {
            value("root: no greater than its size", "root " + root * root, root);
            value("root: just below the next", "root " + (root * root + 2 * root), root);
            value("root: with its sign", "root -" + (root * root + 2 * root), -root);
            value("root: with its sign", "root -" + root * root, -root);
        }
        value("root of 1", "root 1", 1);
        value("root of 9801", "root 9801", 99);
        value("root of 9800", "root 9800", 98);
        value("root of 9999", "root 9999", 99);
        value("root of 262143", "root(512*512-1)", 511);
        value("root of 262144", "root(512*512)", 512);
        value("root of 998000", "root(998*1000)", 998);
        value("root of 998001", "root(999*999)", 999);
        value("root of 999999", "root(1000*1000-1)", 999);
        value("root of 1000000", "root(1000*1000)", 1000);
        value("root of -999999", "root(1-1000*1000)", -999);
        value("root of -1000000", "root(-1000*1000)", -1000);
    }

    private static void has(String sentence, String either, boolean due) {
        UnlearnedHand x = Made.turnsAndMen(1, 1);
        Due.is("P18 text of " + either, Due.text(x, "has " + either + ";"), 0);
        x.by(0);
        Due.is("P18 " + sentence + ": " + either, x.of(0, 1), due ? 1 : 0);
    }

    private static void compared() {
        int[][] pairs = {{1, 2}, {2, 2}, {3, 2}, {0, 0}, {0, 1}, {9999, 9998}};
        for (int[] pair : pairs) {
            for (int sign = -1; sign < 2; sign += 2) {
                int a = pair[0] * sign;
                int b = pair[1] * sign;
                has("<", a + "<" + b, a < b);
                has("<=", a + "<=" + b, a <= b);
                has(">", a + ">" + b, a > b);
                has(">=", a + ">=" + b, a >= b);
                has("=", a + "=" + b, a == b);
                has("# (unlike)", a + "#" + b, a != b);
                has("not <", "not " + a + "<" + b, a >= b);
                has("not #", "not " + a + "#" + b, a == b);
            }
        }
        has("a SUM on both sides", "1+2<2*2", true);
        has("a SUM on both sides", "2*2<1+2", false);
    }

    private static void bothSides() {
        String[] is = {"1=2", "1=1"};
        for (int i = 0; i < 8; i++) {
            boolean a = (i & 4) != 0;
            boolean b = (i & 2) != 0;
            boolean c = (i & 1) != 0;
            String x = is[a ? 1 : 0];
            String y = is[b ? 1 : 0];
            String z = is[c ? 1 : 0];
            has("BOTH {or BOTH}", x + " or " + y + " or " + z, a || b || c);
            has("ASK {and ASK}", x + " and " + y + " and " + z, a && b && c);
            has("and ahead of or", x + " or " + y + " and " + z, a || b && c);
            has("and ahead of or", x + " and " + y + " or " + z, a && b || c);
            has("and ahead of or, twice", x + " and " + y + " or " + z + " and " + x, a && b || c && a);
            has("and ahead of or, between", x + " or " + y + " and " + z + " or " + z, a || b && c || c);
            has("not of one ASK alone", "not " + x + " and " + y, !a && b);
            has("not of one ASK alone", "not " + x + " or " + y, !a || b);
            has("not of the second ASK", x + " and not " + y, a && !b);
            has("not of not", "not not " + x + " and not not not " + y, a && !b);
        }
        has("or looks at both sides: by 0 it is 0", "1=1 or 1/0=0", true);
        has("and looks at both sides: by 0 it is 0", "1=2 and 1/0=0", false);
    }

    /** As many values as can wait for one another: two or more at each of eight that are open. */
    private static void deepest() {
        String open = "2-1*(".repeat(8);
        value("8 open, each with a SUM and a PRODUCT that wait", open + "1" + ")".repeat(8), 1);
        has("the same behind or, and, not 0 times", "1=2 or 1=1 and 0+1*1<1+1*(" + "1+1*(".repeat(7) + "1" + ")".repeat(8), true);
        has("the same on the first side", "1=2 or 1=1 and 1+1*(" + "1+1*(".repeat(7) + "1" + ")".repeat(8) + "=9", true);
        UnlearnedHand x = Made.turnsAndMen(8, 6);
        Due.text(x, "fades " + "1+1*(".repeat(8) + "day+turn" + ")".repeat(8) + ";");
        x.by(0);
        Due.is("P18 the deepest text on the last TURN", x.hand(5, 7, 3), 15);
    }

    private static void namesAtTheirEdges() {
        UnlearnedHand x = new UnlearnedHand();
        for (int i = 0; i < 8; i++) {
            x.turn(i == 7 ? 99 : i + 1);
        }
        for (int i = 0; i < 6; i++) {
            x.man(i == 5 ? 9 : i);
        }
        x.teach(5, 7, 99);
        x.mislead(5, 6, 99);
        String[] sums = {"turn", "pride", "right", "wrong", "worth", "day", "sung", "tied"};
        for (int i = 0; i < 4; i++) {
            Due.text(x, "fades " + sums[i] + "; drops " + sums[i] + ";");
        }
        int[][] due = {{7, 9, 99, 0}, {6, 9, 0, 99}, {0, 9, 0, 0}};
        int[] turn = {7, 6, 0};
        for (int i = 0; i < 4; i++) {
            x.by(i);
            for (int t = 0; t < 3; t++) {
                Due.is("P18 " + sums[i] + " in fades, of TURN " + turn[t], x.hand(5, turn[t], 3), due[t][i]);
                Due.is("P18 " + sums[i] + " in drops, of TURN " + turn[t], x.hand(5, turn[t], 4), due[t][i]);
            }
        }
        Due.is("P18 wrong of another MAN", x.hand(4, 6, 3), 0);
        UnlearnedHand y = Made.onDay(999);
        Due.text(y, "fades worth+10*sung+20*tied;");
        Due.text(y, "fades day-960; drops day-950;");
        y.by(0);
        Due.is("P18 worth, sung: 1, so", y.hand(1, 2, 3), 17);
        Due.is("P18 sung: 0, by another MAN", y.hand(0, 2, 3), 7);
        y.tie(0, 0);
        Due.is("P18 tied: 1, so", y.hand(0, 0, 3), 23);
        Due.is("P18 tied: 0 at another", y.hand(0, 2, 3), 7);
        Due.is("P18 tied: 0 of another MAN", y.hand(1, 0, 3), 3);
        y.by(1);
        Due.is("P18 day is 999 in fades", y.hand(0, 0, 3), 39);
        Due.is("P18 day is 999 in drops", y.hand(0, 0, 4), 49);
    }

    private static void namesInHas() {
        String[] asks = {"turn=7", "pride=9", "right=99", "wrong=99", "worth=99"};
        // Of the last MAN: TURN 7 by all but wrong, TURN 6 by wrong.
        int[] last = {128, 255, 128, 64, 128};
        int[] first = {128, 0, 0, 0, 128};
        for (int i = 0; i < asks.length; i++) {
            UnlearnedHand x = new UnlearnedHand();
            for (int turn = 0; turn < 8; turn++) {
                x.turn(turn == 7 ? 99 : turn + 1);
            }
            for (int man = 0; man < 6; man++) {
                x.man(man == 5 ? 9 : man);
            }
            x.teach(5, 7, 99);
            x.mislead(5, 6, 99);
            Due.text(x, "has " + asks[i] + ";");
            x.by(0);
            Due.is("P18 a NAME in has, of the last MAN: " + asks[i], x.of(5, 1), last[i]);
            Due.is("P18 a NAME in has, of the first MAN: " + asks[i], x.of(0, 1), first[i]);
        }
    }

    private static void namesInPushes() {
        String[] sums = {"turn", "pride", "right/9", "wrong", "worth", "much"};
        int[] due = {2, 4, 9, 30, 7, 20};
        for (int i = 0; i < sums.length; i++) {
            UnlearnedHand x = Made.ruled("pushes " + sums[i] + ";");
            x.by(-1);
            x.mislead(0, 2, 10);
            x.teach(0, 2, 81);
            x.by(0);
            Due.is("P18 a NAME in pushes: " + sums[i], x.mislead(0, 2, 20), 81 - due[i]);
        }
    }

    private static void law(String text, int what, int due) {
        String name = what == 3 ? "fades: -9 at least, 99 at most" : "drops: 0 at least, 99 at most";
        UnlearnedHand x = Made.ruled((what == 3 ? "fades " : "drops ") + text + ";");
        Due.is("P24 " + name + ": of " + text, x.hand(0, 0, what), due);
    }

    private static void leastAndGreatest() {
        law("-8", 3, -8);
        law("-9", 3, -9);
        law("-10", 3, -9);
        law("-9999*9999", 3, -9);
        law("0", 3, 0);
        law("98", 3, 98);
        law("99", 3, 99);
        law("100", 3, 99);
        law("9999*9999", 3, 99);
        law("1", 4, 1);
        law("0", 4, 0);
        law("-1", 4, 0);
        law("-9", 4, 0);
        law("-9999*9999", 4, 0);
        law("98", 4, 98);
        law("99", 4, 99);
        law("100", 4, 99);
        law("9999*9999", 4, 99);
    }

    private static void without() {
        UnlearnedHand x = Made.plain();
        x.teach(0, 0, 5);
        x.teach(0, 1, 5);
        x.teach(0, 2, 5);
        x.mislead(0, 0, 1);
        x.mislead(0, 0, 1);
        x.mislead(0, 0, 1);
        x.mislead(0, 0, 1);
        for (int i = 0; i < 5; i++) {
            x.mislead(0, 1, 1);
        }
        for (int i = 0; i < 6; i++) {
            x.mislead(0, 2, 1);
        }
        Due.is("P20 has without: RIGHT above WRONG: 5 and 4, not 5 and 5, not 5 and 6", x.of(0, 1), 1);
        Due.is("P20 has without: 0 and 0 isn't above", x.of(1, 1), 0);
        String[] other = {"has 1=1;", "fades 7;", "drops 7;", "pushes 7;"};
        for (int i = 0; i < 4; i++) {
            UnlearnedHand y = Made.plain();
            y.teach(0, 0, 50);
            Due.text(y, other[i]);
            y.by(0);
            Due.is("P20 has without, by " + other[i], y.of(0, 1), i == 0 ? 7 : 1);
            Due.is("P20 fades without: 1, by " + other[i], y.hand(0, 0, 3), i == 1 ? 7 : 1);
            Due.is("P20 drops without: 0, by " + other[i], y.hand(0, 0, 4), i == 2 ? 7 : 0);
            Due.is("P20 pushes without: half of k, cut, by " + other[i], y.mislead(0, 0, 9), i == 3 ? 43 : 46);
        }
    }

    private static void hand() {
        Edge.stays("P24 fades as now: as of a TURN that isn't SUNG, though it is", Made::lived, x -> x.hand(0, 1, 3), 2);
        Edge.stays("P24 drops as now", Made::lived, x -> x.hand(0, 1, 4), 1);
        Edge.stays("P24 fades as now, of a FREE one", Made::freed, x -> x.hand(1, 0, 3), 2);
        Edge.taken("P24 as now: behind a NIGHT", () -> Made.ruled("fades day; drops day*2;"), x -> x.night(5), 0, x -> x.hand(0, 0, 3), 5);
        Edge.taken("P24 as now: behind a NIGHT", () -> Made.ruled("fades day; drops day*2;"), x -> x.night(5), 0, x -> x.hand(0, 0, 4), 10);
    }
}
