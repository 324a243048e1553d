/** Promises 14, 15 and 22: nights, winters and steps that are taken back. */
public final class NightsTest {
    public static void main(String[] args) {
        night();
        nightLaws();
        nightLawsAtOnce();
        trials();
        lastDay();
        winters();
        wintersAllDraws();
        wintersOfOne();
        untold();
        undo();
        undoBehindTelling();
        Due.end();
    }

    private static UnlearnedHand made() {
        UnlearnedHand x = new UnlearnedHand();
        x.turn(3);
        x.turn(5);
        x.man(4);
        x.man(0);
        return x;
    }

    private static void night() {
        UnlearnedHand x = made();
        x.teach(0, 0, 10);
        x.teach(0, 1, 10);
        x.mislead(0, 0, 1);
        x.sing(0, 1, true);
        Due.is("P14 night(3)", x.night(3), 0);
        Due.is("P14 faded by 3", x.hand(0, 0, 0), 7);
        Due.is("P14 sung stays", x.hand(0, 1, 0), 10);
        Due.is("P14 wrong stays without drops", x.hand(0, 0, 1), 1);
        Due.is("P14 day", x.about(3), 3);
        Due.is("P14 each a step", x.about(7), 7);
        Due.is("P14 night(0)", x.night(0), -1);
        Due.is("P14 night(61)", x.night(61), -1);
        Due.is("P14 night(-1)", x.night(-1), -1);
        x.night(20);
        Due.is("P14 not below 0", x.hand(0, 0, 0), 0);
        UnlearnedHand none = new UnlearnedHand();
        Due.is("P14 nobody", none.night(60), 0);
        Due.is("P14 day", none.about(3), 60);
        Due.is("P14 30 steps at most", none.about(7), 30);
    }

    private static void nightLaws() {
        UnlearnedHand x = made();
        Due.text(x, "fades 0-4; drops right;");
        x.by(0);
        x.teach(0, 0, 10);
        x.mislead(0, 0, 40);
        Due.is("right ahead", x.hand(0, 0, 0), 0);
        x.night(1);
        Due.is("P14 fades below 0: more", x.hand(0, 0, 0), 4);
        Due.is("P14 drops by the right ahead of the night, 0", x.hand(0, 0, 1), 40);
        x.night(1);
        Due.is("P14 more once more", x.hand(0, 0, 0), 8);
        Due.is("P14 drops by the right ahead of the night, 4", x.hand(0, 0, 1), 36);
        x.sing(0, 0, true);
        x.night(1);
        Due.is("P14 sung: right stays", x.hand(0, 0, 0), 8);
        Due.is("P14 sung: wrong drops all the same", x.hand(0, 0, 1), 28);
        x.sing(0, 0, false);
        x.night(30);
        Due.is("P14 right up to 99", x.hand(0, 0, 0), 99);
        Due.is("P14 best grows with right", x.hand(0, 0, 2), 99);
        UnlearnedHand y = made();
        Due.text(y, "fades day;");
        y.by(0);
        y.teach(0, 0, 50);
        y.night(3);
        Due.is("P14 by the day ahead of the night", y.hand(0, 0, 0), 47);
    }

    /** RIGHT and WRONG of a night, each by the other one ahead of it, wherever a night passes. */
    private static void nightLawsAtOnce() {
        UnlearnedHand x = made();
        Due.text(x, "fades wrong; drops right; night 1;");
        x.by(0);
        x.mislead(0, 0, 6);
        x.teach(0, 0, 8);
        x.night(1);
        Due.is("P14 fades by the wrong ahead", x.hand(0, 0, 0), 2);
        Due.is("P14 drops by the right ahead", x.hand(0, 0, 1), 0);
        x.undo();
        // The seed 2 draws 5 first: a night.
        x.winters(2, 1);
        Due.is("P15 fades by the wrong ahead", x.hand(0, 0, 0), 2);
        Due.is("P15 drops by the right ahead", x.hand(0, 0, 1), 0);
        x.undo();
        Due.is("P21 a night", x.played(0), -1);
        Due.is("P21 fades by the wrong ahead", x.hand(0, 0, 0), 2);
        Due.is("P21 drops by the right ahead", x.hand(0, 0, 1), 0);
    }

    private static void trials() {
        UnlearnedHand x = made();
        x.teach(0, 0, 30);
        x.teach(1, 0, 31);
        x.teach(1, 1, 99);
        Due.is("P14 ahead of the trial", x.night(29), 0);
        Due.is("P14 the trial behind the night", x.night(1), 1);
        Due.is("P14 who", x.of(0, 4), 1);
        Due.is("P14 and not", x.of(1, 4), 0);
        Due.is("P14 the free one's steps", x.about(7), 30);
        x.allow(1);
        Due.is("P14 between trials", x.night(29), 1);
        Due.is("P14 the next trial", x.night(1), 2);
        Due.is("P14 right of the free", x.hand(1, 1, 0), 39);
        x.night(1);
        Due.is("P14 a free one fades no more", x.hand(1, 1, 0), 39);
    }

    private static void lastDay() {
        UnlearnedHand x = made();
        for (int i = 0; i < 16; i++) {
            x.night(60);
        }
        Due.is("day", x.about(3), 960);
        Due.is("P14 beyond 999", x.night(40), -1);
        Due.is("P14 nothing is done", x.about(3), 960);
        Due.is("P14 up to 999", x.night(39), 2);
        Due.is("P14 day 999", x.about(3), 999);
        Due.is("P14 none more", x.night(1), -1);
        x.man(1);
        x.teach(2, 0, 50);
        // The seed 2 draws 5 first: a night, for which there is no day left.
        Due.is("P15 999 stays", x.winters(2, 1), 2);
        Due.is("P15 day", x.about(3), 999);
        Due.is("P15 nobody fades", x.hand(2, 0, 0), 50);
    }

    private static int next(int x) {
        return (x * 281 + 179) % 30293;
    }

    private static void winters() {
        UnlearnedHand x = new UnlearnedHand();
        Due.is("P15 nobody", x.winters(1, 1), -1);
        x.man(3);
        Due.is("P15 without turns", x.winters(1, 1), -1);
        UnlearnedHand y = new UnlearnedHand();
        y.turn(3);
        Due.is("P15 without men", y.winters(1, 1), -1);
        y.man(0);
        Due.is("P15 seed -1", y.winters(-1, 1), -1);
        Due.is("P15 seed 10000", y.winters(10000, 1), -1);
        Due.is("P15 n 0", y.winters(1, 0), -1);
        Due.is("P15 n 31", y.winters(1, 31), -1);
        Due.is("P15 none is a step", y.about(7), 0);
        Due.is("P15 seed 9999", y.winters(9999, 30), 0);
        Due.is("P15 one step", y.about(7), 1);
        y.undo();
        Due.is("P15 X is as ahead", y.about(4), 73);
        // 73 mod 6 is 1: misled, with two draws between.
        y.winters(0, 1);
        Due.is("P15 X behind four draws", y.about(4), next(next(next(next(73)))));
        Due.is("P15 wrong", y.hand(0, 0, 1), 1 + next(next(next(73))) % 40);
        // 75 mod 6 is 3: drunk, with one draw more.
        y.teach(0, 0, 50);
        y.winters(1, 1);
        Due.is("P15 drunk", y.hand(0, 0, 0), 47);
        Due.is("P15 X behind two draws", y.about(4), next(next(75)));
        // 77 mod 6 is 5: a night.
        y.winters(2, 1);
        Due.is("P15 a night", y.about(3), 1);
        Due.is("P15 X behind one draw", y.about(4), next(77));
        Due.is("P15 faded", y.hand(0, 0, 0), 46);
        // 79 mod 6 is 1: misled once more.
        y.winters(3, 1);
        Due.is("P15 misled", y.hand(0, 0, 1), 1 + next(next(next(73))) % 40 + 1 + next(next(next(79))) % 40);
    }

    private static void wintersAllDraws() {
        UnlearnedHand x = made();
        x.tie(0, 0);
        x.tie(1, 1);
        x.allow(8);
        x.tried(1);
        int[] state = {0, 0};
        for (int seed = 0; seed < 40; seed++) {
            x.image();
            x.winters(seed, 30);
            state[0] = seed * 2 + 73;
            int day = 0;
            for (int i = 0; i < 30; i++) {
                int what = draw(state, 6);
                if (what > 3) {
                    day++;
                } else {
                    draw(state, 2);
                    if (what < 3) {
                        draw(state, 2);
                    }
                    if (what < 2) {
                        draw(state, 40);
                    }
                }
            }
            Due.is("P15 X: all draws are made anyhow", x.about(4), state[0]);
            Due.is("P15 days", x.about(3), day);
            Due.is("P15 the free one is as it was", x.hand(1, 0, 0) + x.hand(1, 0, 1) + x.of(1, 2), 0);
            Due.is("P15 not taught where it is tied", x.hand(0, 0, 2), 0);
            x.again();
        }
    }

    /** One man and one turn by the laws without a text, each deed by hand. */
    private static void wintersOfOne() {
        UnlearnedHand x = new UnlearnedHand();
        x.turn(1);
        x.man(0);
        for (int seed = 0; seed < 60; seed++) {
            x.image();
            x.winters(seed, 12);
            int[] state = {seed * 2 + 73};
            int right = 0;
            int wrong = 0;
            int best = 0;
            int sung = 0;
            for (int i = 0; i < 12; i++) {
                int what = draw(state, 6);
                for (int d = what < 3 ? 2 : what < 4 ? 1 : 0; d > 0; d--) {
                    draw(state, 1);
                }
                int k = what < 2 ? 1 + draw(state, 40) : 0;
                if (what == 0) {
                    right = Math.min(99, right + k);
                    best = Math.max(best, right);
                } else if (what == 1) {
                    wrong = Math.min(99, wrong + k);
                    right = sung == 1 ? right : Math.max(0, right - k / 2);
                } else if (what == 2) {
                    sung = 1 - sung;
                } else if (sung == 0) {
                    right = Math.max(0, right - (what == 3 ? 3 : 1));
                }
            }
            Due.is("P15 right by seed " + seed, x.hand(0, 0, 0), right);
            Due.is("P15 wrong by seed " + seed, x.hand(0, 0, 1), wrong);
            Due.is("P15 best by seed " + seed, x.hand(0, 0, 2), best);
            Due.is("P15 sung by seed " + seed, x.of(0, 2), sung);
            x.again();
        }
    }

    private static void untold() {
        UnlearnedHand x = made();
        Due.text(x, "fades 0-9;");
        x.by(0);
        x.night(5);
        x.winters(2, 9);
        x.foretold(60, 1);
        x.turn(1);
        x.man(1);
        Due.is("a turn told since has nothing", x.hand(0, 2, 0) + x.hand(0, 2, 2) + x.hand(0, 2, 1), 0);
        Due.is("a man told since has nothing", x.hand(2, 0, 0) + x.hand(2, 0, 2) + x.hand(2, 0, 1), 0);
    }

    private static int draw(int[] state, int among) {
        int drawn = state[0] % among;
        state[0] = next(state[0]);
        return drawn;
    }

    private static void undo() {
        UnlearnedHand x = made();
        Due.is("P22 none", x.undo(), -1);
        x.teach(0, 0, 10);
        x.mislead(0, 0, 4);
        x.sing(0, 0, true);
        x.tie(0, 1);
        x.drink(0);
        x.smell(1);
        x.smelt(0, 0);
        x.night(2);
        x.allow(8);
        x.tried(0);
        Due.is("steps", x.about(7), 9);
        Due.is("P22 tried", x.undo(), 8);
        Due.is("P22 not free", x.of(0, 4), 0);
        Due.is("P22 allowed stays", x.about(9), 8);
        Due.is("P22 a night", x.undo(), 7);
        Due.is("P22 day", x.about(3), 1);
        Due.is("P22 a night", x.undo(), 6);
        Due.is("P22 day", x.about(3), 0);
        Due.is("P22 smelt", x.undo(), 5);
        Due.is("P22 right", x.hand(0, 0, 0), 8);
        Due.is("P22 drunk", x.undo(), 4);
        Due.is("P22 tied", x.undo(), 3);
        Due.is("P22 at none", x.of(0, 3), -1);
        Due.is("P22 sung", x.undo(), 2);
        Due.is("P22 unsung", x.of(0, 2), 0);
        Due.is("P22 misled", x.undo(), 1);
        Due.is("P22 wrong", x.hand(0, 0, 1), 0);
        Due.is("P22 right", x.hand(0, 0, 0), 10);
        Due.is("P22 taught", x.undo(), 0);
        Due.is("P22 best", x.hand(0, 0, 2), 0);
        Due.is("P22 none", x.undo(), -1);
        for (int i = 0; i < 35; i++) {
            x.teach(0, 0, 1);
        }
        for (int i = 29; i >= 0; i--) {
            Due.is("P22 the latest 30", x.undo(), i);
        }
        Due.is("P22 no more", x.undo(), -1);
        Due.is("P22 the first five stay", x.hand(0, 0, 0), 5);
    }

    private static void undoBehindTelling() {
        UnlearnedHand x = made();
        x.teach(0, 0, 10);
        x.man(7);
        x.turn(9);
        x.leads(2, 0);
        x.teach(2, 2, 5);
        x.tie(2, 2);
        x.sing(0, 2, true);
        x.allow(8);
        x.tried(2);
        for (int i = 4; i >= 0; i--) {
            Due.is("P22 undo", x.undo(), i);
        }
        Due.is("P22 the man stays", x.of(2, 0), 7);
        Due.is("P22 its right", x.hand(2, 2, 0), 0);
        Due.is("P22 its best", x.hand(2, 2, 2), 0);
        Due.is("P22 tied at none", x.of(2, 3), -1);
        Due.is("P22 not free", x.of(2, 4), 0);
        Due.is("P22 unsung", x.of(0, 2), 0);
        Due.is("P22 the turn stays", x.ofTurn(2, 0), 9);
        Due.is("P22 its lead stays", x.ofTurn(2, 1), 1);
    }
}
