/** The edges of promises 14 and 15: nights and winters, and how they are taken back (22). */
public final class NightsEdgesTest {
    public static void main(String[] args) {
        nightOthers();
        nightCounts();
        nightsOneByOne();
        lastDay();
        fading();
        fades();
        drops();
        asAllIsThen();
        trialDays();
        trialBehindTheNight();
        freeOnes();
        wintersOthers();
        wintersBySeed();
        wintersDeeds();
        wintersByHowMany();
        wintersThatCannot();
        wintersNights();
        Due.end();
    }

    private static void nightOthers() {
        for (int n : Edge.beyond(1, 60)) {
            Edge.stays("P14 NONE for others: n " + n, Made::lived, x -> x.night(n), -1);
            Edge.stays("P14 NONE for others, at first: n " + n, Made::fresh, x -> x.night(n), -1);
        }
        Edge.taken("P14 1 .. 60: 1 is the least", Made::fresh, x -> x.night(1), 0, x -> x.about(3), 1);
        Edge.taken("P14 1 .. 60: 60 is the most", Made::fresh, x -> x.night(60), 0, x -> x.about(3), 60);
        Edge.taken("P14 without MEN", () -> Made.turnsAndMen(3, 0), x -> x.night(30), 0, x -> x.about(3), 30);
        Edge.taken("P14 without TURNS", () -> Made.turnsAndMen(0, 3), x -> x.night(30), 3, x -> x.about(3), 30);
    }

    private static void nightCounts() {
        UnlearnedHand x = Made.turnsAndMen(1, 6);
        Due.is("P14 how many are FREE: none", x.night(1), 0);
        x.tried(5);
        Due.is("P14 how many are FREE: one that was ahead", x.night(1), 1);
        x.tried(0);
        x.tried(3);
        Due.is("P14 how many are FREE: three", x.night(1), 3);
        Due.is("P14 how many are FREE: all six", x.night(27), 6);
        Due.is("P14 how many are FREE: all six still", x.night(60), 6);
    }

    private static void nightsOneByOne() {
        Edge.taken("P14 each NIGHT is a STEP: 3", Made::plain, x -> x.night(3), 0, x -> x.about(7), 3);
        Edge.taken("P14 each NIGHT is a STEP: the latest 30 of 60", Made::plain, x -> x.night(60), 2, x -> x.about(7), 30);
        UnlearnedHand x = Made.onDay(0);
        UnlearnedHand y = Made.onDay(0);
        x.night(7);
        for (int i = 0; i < 7; i++) {
            y.night(1);
        }
        Edge.sameAll("P14 NIGHTS pass: seven, or seven times one", x, y);
        UnlearnedHand z = Made.onDay(0);
        z.night(60);
        Due.is("P22 of 60 NIGHTS", z.undo(), 29);
        Due.is("P22 the latest first", z.about(3), 59);
        for (int i = 28; i >= 0; i--) {
            Due.is("P22 NIGHT by NIGHT", z.undo(), i);
        }
        Due.is("P22 30 can be taken back", z.about(3), 30);
        Due.is("P22 no more", z.undo(), -1);
    }

    private static void lastDay() {
        Edge.stays("P14 NONE beyond 999: 999 and 1", Made::lastDay, x -> x.night(1), -1);
        Edge.stays("P14 NONE beyond 999: 999 and 60", Made::lastDay, x -> x.night(60), -1);
        Edge.stays("P14 NONE beyond 999: 940 and 60", () -> Made.onDay(940), x -> x.night(60), -1);
        Edge.stays("P14 NONE beyond 999: 998 and 2", () -> Made.onDay(998), x -> x.night(2), -1);
        Edge.taken("P14 DAY 0 .. 999: 939 and 60", () -> Made.onDay(939), x -> x.night(60), 0, x -> x.about(3), 999);
        Edge.taken("P14 DAY 0 .. 999: 998 and 1", () -> Made.onDay(998), x -> x.night(1), 0, x -> x.about(3), 999);
        Edge.taken("P14 beyond 999, but a NIGHT taken back", Made::lastDay, x -> x.undo() + x.night(1), 29, x -> x.about(3), 999);
        Edge.taken("P7 on the last DAY", Made::lastDay, x -> x.teach(0, 0, 5), 5, x -> x.about(3), 999);
        Edge.taken("P13 on the last DAY", Made::lastDay, x -> x.tried(0), 1, x -> x.about(3), 999);
    }

    private static UnlearnedHand held(String text, int right, int wrong) {
        UnlearnedHand x = Made.ruled("pushes 0;" + text);
        x.teach(0, 0, right);
        if (wrong > 0) {
            x.mislead(0, 0, wrong);
        }
        return x;
    }

    private static void fading() {
        Edge.taken("P14 fades without: 1", () -> held("", 5, 0), x -> x.night(1), 0, x -> x.hand(0, 0, 0), 4);
        Edge.taken("P14 RIGHT from 0", () -> held("", 5, 0), x -> x.night(5), 0, x -> x.hand(0, 0, 0), 0);
        Edge.taken("P14 RIGHT below 0 is 0", () -> held("", 5, 0), x -> x.night(6), 0, x -> x.hand(0, 0, 0), 0);
        Edge.taken("P14 BEST stays", () -> held("", 5, 0), x -> x.night(3), 0, x -> x.hand(0, 0, 2), 5);
        Edge.taken("P14 drops without: 0", () -> held("", 5, 9), x -> x.night(3), 0, x -> x.hand(0, 0, 1), 9);
        Edge.taken("P14 if it isn't SUNG", () -> held("drops 2;", 5, 9), x -> x.sing(0, 0, true) ? x.night(3) : -5, 0, x -> x.hand(0, 0, 0), 5);
        Edge.taken("P14 SUNG: WRONG is less all the same", () -> held("drops 2;", 5, 9), x -> x.sing(0, 0, true) ? x.night(3) : -5, 0,
            x -> x.hand(0, 0, 1), 3);
        Edge.taken("P14 SUNG by another doesn't matter", () -> held("", 5, 0), x -> x.sing(1, 0, true) ? x.night(3) : -5, 0, x -> x.hand(0, 0, 0), 2);
        Edge.taken("P14 TIED doesn't matter", () -> held("", 5, 0), x -> x.tie(0, 0) ? x.night(3) : -5, 0, x -> x.hand(0, 0, 0), 2);
        UnlearnedHand x = Made.turnsAndMen(8, 6);
        for (int i = 0; i < 6; i++) {
            x.teach(i, 0, 10 + i);
            x.teach(i, 7, 20 + i);
        }
        x.night(1);
        for (int i = 0; i < 6; i++) {
            Due.is("P14 by MEN, by TURNS: the first TURN of " + i, x.hand(i, 0, 0), 9 + i);
            Due.is("P14 by MEN, by TURNS: the last TURN of " + i, x.hand(i, 7, 0), 19 + i);
        }
    }

    private static void fades() {
        Edge.taken("P14 fades: -9 at least: of -9", () -> held("fades -9;", 5, 0), x -> x.night(1), 0, x -> x.hand(0, 0, 0), 14);
        Edge.taken("P14 fades: -9 at least: of -10", () -> held("fades -10;", 5, 0), x -> x.night(1), 0, x -> x.hand(0, 0, 0), 14);
        Edge.taken("P14 fades: -8", () -> held("fades -8;", 5, 0), x -> x.night(1), 0, x -> x.hand(0, 0, 0), 13);
        Edge.taken("P14 fades: 0", () -> held("fades 0;", 5, 0), x -> x.night(9), 0, x -> x.hand(0, 0, 0), 5);
        Edge.taken("P14 fades: 98", () -> held("fades 98;", 99, 0), x -> x.night(1), 0, x -> x.hand(0, 0, 0), 1);
        Edge.taken("P14 fades: 99 at most", () -> held("fades 99;", 99, 0), x -> x.night(1), 0, x -> x.hand(0, 0, 0), 0);
        Edge.taken("P14 fades: 99 at most: of 9999", () -> held("fades 9999;", 99, 0), x -> x.night(1), 0, x -> x.hand(0, 0, 0), 0);
        Edge.taken("P14 RIGHT is 99 at most: 90 and 9", () -> held("fades -9;", 90, 0), x -> x.night(1), 0, x -> x.hand(0, 0, 0), 99);
        Edge.taken("P14 RIGHT is 99 at most: 91 and 9", () -> held("fades -9;", 91, 0), x -> x.night(1), 0, x -> x.hand(0, 0, 0), 99);
        Edge.taken("P14 BEST grows with RIGHT in a NIGHT", () -> held("fades -9;", 5, 0), x -> x.night(2), 0, x -> x.hand(0, 0, 2), 23);
        Edge.taken("P14 BEST is 99 at most", () -> held("fades -9;", 91, 0), x -> x.night(1), 0, x -> x.hand(0, 0, 2), 99);
        Edge.taken("P14 BEST stays below, where RIGHT is less", () -> held("fades day*20-9;", 5, 0), x -> x.night(2), 0, x -> x.hand(0, 0, 2), 14);
        Edge.taken("P14 TURNS that were never taught grow by that too", () -> held("fades -9;", 5, 0), x -> x.night(2), 0, x -> x.hand(1, 2, 2), 18);
        Edge.taken("P14 TIED at it: fades below 0 is no teaching", () -> held("fades -9;", 5, 0), x -> x.tie(0, 0) ? x.night(1) : -5, 0,
            x -> x.hand(0, 0, 0), 14);
    }

    private static void drops() {
        Edge.taken("P14 drops: 0 at least: of -1", () -> held("drops 0-1;", 5, 9), x -> x.night(1), 0, x -> x.hand(0, 0, 1), 9);
        Edge.taken("P14 drops: 1", () -> held("drops 1;", 5, 9), x -> x.night(1), 0, x -> x.hand(0, 0, 1), 8);
        Edge.taken("P14 drops: 98", () -> held("drops 98;", 5, 99), x -> x.night(1), 0, x -> x.hand(0, 0, 1), 1);
        Edge.taken("P14 drops: 99 at most", () -> held("drops 99;", 5, 99), x -> x.night(1), 0, x -> x.hand(0, 0, 1), 0);
        Edge.taken("P14 drops: 99 at most: of 9999", () -> held("drops 9999;", 5, 99), x -> x.night(1), 0, x -> x.hand(0, 0, 1), 0);
        Edge.taken("P14 WRONG from 0", () -> held("drops 3;", 5, 9), x -> x.night(3), 0, x -> x.hand(0, 0, 1), 0);
        Edge.taken("P14 WRONG below 0 is 0", () -> held("drops 5;", 5, 9), x -> x.night(2), 0, x -> x.hand(0, 0, 1), 0);
        Edge.taken("P14 RIGHT fades where drops rules alone", () -> held("drops 5;", 5, 9), x -> x.night(2), 0, x -> x.hand(0, 0, 0), 3);
    }

    private static void asAllIsThen() {
        Edge.taken("P14 each as all is then: fades by the WRONG that isn't less yet", () -> held("fades wrong; drops 9;", 50, 9), x -> x.night(1), 0,
            x -> x.hand(0, 0, 0), 41);
        Edge.taken("P14 each as all is then: drops by the RIGHT that isn't less yet", () -> held("fades 9; drops right;", 9, 50), x -> x.night(1), 0,
            x -> x.hand(0, 0, 1), 41);
        Edge.taken("P14 then DAY is one more: fades by the DAY ahead", () -> held("fades day+1;", 50, 0), x -> x.night(3), 0, x -> x.hand(0, 0, 0), 44);
        Edge.taken("P14 then DAY is one more: drops by the DAY ahead", () -> held("drops day+1;", 5, 50), x -> x.night(3), 0, x -> x.hand(0, 0, 1), 44);
    }

    private static void trialDays() {
        for (int day : new int[] {1, 2, 10, 28, 29, 30, 31, 59, 60, 61, 90, 120, 256, 270, 300, 510, 512, 540, 960, 989, 990, 991, 998, 999}) {
            int due = day % 30 == 0 ? 2 : 0;
            String why = due == 2 ? "P14 if DAY is a multiple of 30 then: " : "P14 DAY is no multiple of 30: ";
            Edge.taken(why + day, () -> Made.onDay(day - 1), x -> x.allow(1) ? x.night(1) : -5, due, x -> x.of(0, 4) + x.of(1, 4), due);
        }
        Edge.taken("P14 in the midst of NIGHTS", () -> Made.onDay(20), x -> x.allow(1) ? x.night(20) : -5, 2, x -> x.hand(0, 0, 0), 0);
        Edge.taken("P14 TRIED: no more than allowed", () -> Made.onDay(29), x -> x.night(1), 0, x -> x.about(7), 30);
        UnlearnedHand x = Made.onDay(29);
        x.teach(0, 2, 50);
        x.allow(1);
        Due.is("P14 each MAN is TRIED by himself", x.night(1), 1);
        Due.is("P14 two TURNS of one allowed", x.of(0, 4), 0);
        Due.is("P14 one TURN of one allowed", x.of(1, 4), 1);
        UnlearnedHand y = Made.turnsAndMen(1, 6);
        y.night(29);
        Due.is("P14 all six are TRIED", y.night(1), 6);
        Due.is("P22 the trial is no STEP of its own", y.undo(), 29);
        Due.is("P22 nobody is FREE", y.of(0, 4) + y.of(5, 4), 0);
    }

    private static void trialBehindTheNight() {
        UnlearnedHand x = Made.turnsAndMen(1, 3);
        x.teach(0, 0, 29);
        x.teach(1, 0, 30);
        x.teach(2, 0, 31);
        Due.is("P14 TRIED behind fading", x.night(30), 2);
        Due.is("P14 31 less 30 is 1: it HAS the TURN", x.of(2, 4), 0);
        Due.is("P14 30 less 30 is 0", x.of(1, 4), 1);
    }

    private static void freeOnes() {
        UnlearnedHand x = held("fades 2; drops 3;", 60, 20);
        x.teach(1, 0, 60);
        x.allow(8);
        x.tried(0);
        x.allow(0);
        x.night(5);
        Due.is("P14 by MEN that aren't FREE: RIGHT of a FREE one stays", x.hand(0, 0, 0), 60);
        Due.is("P14 by MEN that aren't FREE: WRONG of a FREE one stays", x.hand(0, 0, 1), 20);
        Due.is("P14 another's doesn't", x.hand(1, 0, 0), 50);
        x.night(25);
        Due.is("P14 nor TRIED: FREE stays, though it HAS more than allowed", x.of(0, 4), 1);
        Due.is("P14 nothing fades from the trial", x.hand(0, 0, 0), 60);
        UnlearnedHand y = Made.turnsAndMen(2, 1);
        y.teach(0, 0, 40);
        y.allow(1);
        y.night(60);
        Due.is("P14 FREE at 30: nothing fades from then on", y.hand(0, 0, 0), 10);
    }

    private static void wintersOthers() {
        for (int seed : Edge.beyond(0, 9999)) {
            Edge.stays("P15 NONE for others: SEED " + seed, Made::lived, x -> x.winters(seed, 1), -1);
        }
        for (int n : Edge.beyond(1, 30)) {
            Edge.stays("P15 NONE for others: n " + n, Made::lived, x -> x.winters(1, n), -1);
        }
        Edge.stays("P15 NONE without MEN", () -> Made.turnsAndMen(1, 0), x -> x.winters(1, 1), -1);
        Edge.stays("P15 NONE without TURNS", () -> Made.turnsAndMen(0, 1), x -> x.winters(1, 1), -1);
        Edge.stays("P15 NONE without both", Made::fresh, x -> x.winters(1, 1), -1);
        Edge.taken("P15 one MAN and one TURN", () -> Made.turnsAndMen(1, 1), x -> x.winters(1, 1), 0, x -> x.about(7), 1);
    }

    private static int next(int x) {
        return (x * 281 + 179) % 30293;
    }

    private static int xBehind(int seed, int draws) {
        int x = seed * 2 + 73;
        for (int i = 0; i < draws; i++) {
            x = next(x);
        }
        return x;
    }

    /**
     * The lowest seed whose first winter is a night (one draw) and whose second is this deed, its fourth draw
     * by 40 being so (NONE: whatever it is). X is odd at first, so that not every deed can be the first one.
     */
    private static int seedOf(int deed, int fourth) {
        for (int seed = 0; seed < 10000; seed++) {
            boolean isDeed = xBehind(seed, 0) % 6 == 5 && xBehind(seed, 1) % 6 == deed;
            if (isDeed && (fourth < 0 || xBehind(seed, 4) % 40 == fourth)) {
                return seed;
            }
        }
        return -1;
    }

    /** The lowest seed whose first winter is a night. */
    private static int seedOfNight() {
        int seed = 0;
        while (xBehind(seed, 0) % 6 != 5) {
            seed++;
        }
        return seed;
    }

    /** How many draws so many winters make. */
    private static int drawsOf(int seed, int n) {
        int draws = 0;
        for (int i = 0; i < n; i++) {
            int deed = xBehind(seed, draws) % 6;
            draws += deed < 2 ? 4 : deed == 2 ? 3 : deed == 3 ? 2 : 1;
        }
        return draws;
    }

    private static void wintersBySeed() {
        Edge.taken("P15 SEED 0 .. 9999: 0 is the least", Made::plain, x -> x.winters(0, 1), 0, x -> x.about(4), xBehind(0, drawsOf(0, 1)));
        Edge.taken("P15 SEED 0 .. 9999: 9999 is the most", Made::plain, x -> x.winters(9999, 1), 0, x -> x.about(4), xBehind(9999, drawsOf(9999, 1)));
        Edge.taken("P15 n times: 30 is the most", Made::plain, x -> x.winters(9, 30), 0, x -> x.about(4), xBehind(9, drawsOf(9, 30)));
        Edge.taken("P15 X is SEED anew, whatever it was", Made::plain, x -> x.winters(9, 1) + x.winters(0, 1), 0, x -> x.about(4),
            xBehind(0, drawsOf(0, 1)));
        Edge.taken("P15 It is one STEP", Made::plain, x -> x.winters(9, 30), 0, x -> x.about(7), 1);
        Edge.taken("P22 X is as ahead of it", Made::plain, x -> x.winters(9, 30) + x.winters(5, 1) + x.undo(), 1, x -> x.about(4),
            xBehind(9, drawsOf(9, 30)));
        Edge.taken("P22 X is 73 again", Made::plain, x -> x.winters(9, 30) + x.undo(), 0, x -> x.about(4), 73);
        // An X close behind a multiple of 30293, and one close ahead of it.
        boolean isLeast = false;
        boolean isMost = false;
        for (int seed = 0; seed < 10000; seed++) {
            int at = xBehind(seed, 1);
            boolean isNight = xBehind(seed, 0) % 6 > 3;
            if (isNight && (at < 40 && !isLeast || at > 30252 && !isMost)) {
                int it = seed;
                isLeast |= at < 40;
                isMost |= at > 30252;
                Edge.taken("P15 X is (X * 281 + 179) mod 30293", Made::plain, x -> x.winters(it, 1), 0, x -> x.about(4), at);
            }
        }
        Due.is("seeds for the least and the greatest X", isLeast && isMost, true);
    }

    private static void wintersDeeds() {
        int least = seedOf(0, 0);
        int most = seedOf(0, 39);
        Edge.taken("P15 0: TAUGHT by 1 and a draw by 40: by 1", () -> allTaught(5), x -> x.winters(least, 2), 0, x -> x.hand(0, 0, 0), 6);
        Edge.taken("P15 0: TAUGHT by 1 and a draw by 40: by 40", () -> allTaught(5), x -> x.winters(most, 2), 0, x -> x.hand(0, 0, 0), 45);
        Edge.taken("P15 0: BEST grows with RIGHT", () -> allTaught(5), x -> x.winters(most, 2), 0, x -> x.hand(0, 0, 2), 45);
        Edge.taken("P15 0: RIGHT is 99 at most: 59 and 40", () -> allTaught(59), x -> x.winters(most, 2), 0, x -> x.hand(0, 0, 0), 99);
        Edge.taken("P15 0: RIGHT is 99 at most: 60 and 40", () -> allTaught(60), x -> x.winters(most, 2), 0, x -> x.hand(0, 0, 0), 99);
        int leastWrong = seedOf(1, 0);
        int mostWrong = seedOf(1, 39);
        Edge.taken("P15 1: MISLED by 1 and a draw by 40: by 1", () -> allTaught(50), x -> x.winters(leastWrong, 2), 0, x -> x.hand(0, 0, 1), 1);
        Edge.taken("P15 1: MISLED by 1 pushes 0", () -> allTaught(50), x -> x.winters(leastWrong, 2), 0, x -> x.hand(0, 0, 0), 50);
        Edge.taken("P15 1: MISLED by 1 and a draw by 40: by 40", () -> allTaught(50), x -> x.winters(mostWrong, 2), 0, x -> x.hand(0, 0, 1), 40);
        Edge.taken("P15 1: MISLED by 40 pushes 20", () -> allTaught(50), x -> x.winters(mostWrong, 2), 0, x -> x.hand(0, 0, 0), 30);
        Edge.taken("P15 1: RIGHT from 0", () -> allTaught(19), x -> x.winters(mostWrong, 2), 0, x -> x.hand(0, 0, 0), 0);
        Edge.taken("P15 1: WRONG is 99 at most", () -> allTaught(5), x -> x.mislead(0, 0, 60) + x.winters(mostWrong, 2), 0, x -> x.hand(0, 0, 1), 99);
        Edge.taken("P15 1: unless it is SUNG", () -> allSung(50), x -> x.winters(mostWrong, 2), 0, x -> x.hand(0, 0, 0), 50);
        int sing = seedOf(2, -1);
        Edge.taken("P15 2: SUNG", () -> allTaught(50), x -> x.winters(sing, 2), 0, x -> x.of(0, 2), 1);
        Edge.taken("P15 2: or not any more", () -> allSung(50), x -> x.winters(sing, 2), 0, x -> x.of(0, 2), 0);
        int drink = seedOf(3, -1);
        Edge.taken("P15 3: DRUNK", () -> allTaught(50), x -> x.winters(drink, 2), 0, x -> x.hand(0, 0, 0), 47);
        Edge.taken("P15 3: DRUNK: RIGHT from 0", () -> allTaught(2), x -> x.winters(drink, 2), 0, x -> x.hand(0, 0, 0), 0);
        Edge.taken("P15 3: DRUNK, but what is SUNG", () -> allSung(50), x -> x.winters(drink, 2), 0, x -> x.hand(0, 0, 0), 50);
        for (int deed = 0; deed < 6; deed++) {
            int seed = seedOf(deed, -1);
            int days = deed > 3 ? 2 : 1;
            String why = "P15 a draw by 6: " + deed;
            Edge.taken(why + (deed > 3 ? ": else a NIGHT" : ": no NIGHT"), () -> allTaught(50), x -> x.winters(seed, 2), 0, x -> x.about(3), days);
            Edge.taken(why + ": all its draws", () -> allTaught(50), x -> x.winters(seed, 2), 0, x -> x.about(4), xBehind(seed, drawsOf(seed, 2)));
        }
    }

    /** One man and one turn, by a text by which nothing fades, as a night is ahead of each deed. */
    private static UnlearnedHand allTaught(int right) {
        UnlearnedHand x = Made.turnsAndMen(1, 1);
        Due.text(x, "fades 0;");
        x.by(0);
        x.teach(0, 0, right);
        return x;
    }

    private static UnlearnedHand allSung(int right) {
        UnlearnedHand x = allTaught(right);
        x.sing(0, 0, true);
        return x;
    }

    /** By eight turns and six men each can be drawn, the first ones and the last ones too. */
    private static void wintersByHowMany() {
        boolean[] men = new boolean[6];
        boolean[] turns = new boolean[8];
        for (int seed = 0; seed < 10000; seed++) {
            int man = xBehind(seed, 1) % 6;
            int turn = xBehind(seed, 2) % 8;
            if (xBehind(seed, 0) % 6 != 1 || men[man] && turns[turn]) {
                continue;
            }
            men[man] = true;
            turns[turn] = true;
            UnlearnedHand x = Made.turnsAndMen(8, 6);
            x.winters(seed, 1);
            for (int m = 0; m < 6; m++) {
                for (int t = 0; t < 8; t++) {
                    int due = m == man && t == turn ? 1 + xBehind(seed, 3) % 40 : 0;
                    Due.is("P15 a MAN, then a TURN, drawn by how many there are: " + m + ", " + t, x.hand(m, t, 1), due);
                }
            }
        }
        Due.is("the first and the last man were drawn", men[0] && men[5], true);
        Due.is("the first and the last turn were drawn", turns[0] && turns[7], true);
    }

    private static UnlearnedHand allFree() {
        UnlearnedHand x = allTaught(50);
        x.allow(8);
        x.tried(0);
        x.allow(0);
        return x;
    }

    private static UnlearnedHand allTied() {
        UnlearnedHand x = allTaught(50);
        x.tie(0, 0);
        return x;
    }

    private static void wintersThatCannot() {
        for (int deed = 0; deed < 6; deed++) {
            int seed = seedOf(deed, -1);
            UnlearnedHand x = allFree();
            Due.is("P15 how many are FREE: deed " + deed, x.winters(seed, 2), 1);
            Due.is("P15 all draws are made anyhow: FREE, deed " + deed, x.about(4), xBehind(seed, drawsOf(seed, 2)));
            Due.is("P15 if it can be: RIGHT of a FREE one, deed " + deed, x.hand(0, 0, 0), 50);
            Due.is("P15 if it can be: WRONG of a FREE one, deed " + deed, x.hand(0, 0, 1), 0);
            Due.is("P15 if it can be: SUNG of a FREE one, deed " + deed, x.of(0, 2), 0);
            Due.is("P15 one STEP, though nothing can be, deed " + deed, x.about(7), 3);
        }
        int teach = seedOf(0, -1);
        Edge.taken("P15 0: not TAUGHT where it is TIED", NightsEdgesTest::allTied, x -> x.winters(teach, 2), 0, x -> x.hand(0, 0, 0), 50);
        Edge.taken("P15 0: all draws are made anyhow: TIED", NightsEdgesTest::allTied, x -> x.winters(teach, 2), 0, x -> x.about(4),
            xBehind(teach, 5));
        int mislead = seedOf(1, 39);
        Edge.taken("P15 1: MISLED where it is TIED", NightsEdgesTest::allTied, x -> x.winters(mislead, 2), 0, x -> x.hand(0, 0, 1), 40);
        int drink = seedOf(3, -1);
        Edge.taken("P15 3: DRUNK where it is TIED", NightsEdgesTest::allTied, x -> x.winters(drink, 2), 0, x -> x.hand(0, 0, 0), 47);
    }

    private static void wintersNights() {
        int night = seedOfNight();
        Edge.taken("P15 999 stays: then no NIGHT", Made::lastDay, x -> x.winters(night, 1), 0, x -> x.about(3), 999);
        Edge.taken("P15 999 stays: the draw is made", Made::lastDay, x -> x.winters(night, 1), 0, x -> x.about(4), xBehind(night, 1));
        Edge.taken("P15 999 stays: nothing fades", () -> taughtOn(999), x -> x.winters(night, 1), 0, x -> x.hand(0, 0, 0), 50);
        Edge.taken("P15 998 doesn't stay", () -> taughtOn(998), x -> x.winters(night, 1), 0, x -> x.about(3), 999);
        Edge.taken("P15 998 doesn't stay: it fades", () -> taughtOn(998), x -> x.winters(night, 1), 0, x -> x.hand(0, 0, 0), 49);
        Edge.taken("P15 a NIGHT's trial on DAY 30", () -> Made.onDay(29), x -> x.allow(1) ? x.winters(night, 1) : -5, 2, x -> x.about(3), 30);
        Edge.taken("P15 none on DAY 29", () -> Made.onDay(28), x -> x.allow(1) ? x.winters(night, 1) : -5, 0, x -> x.about(3), 29);
        Edge.taken("P15 by a TEXT's laws", () -> held("fades 7;", 50, 0), x -> x.winters(night, 1), 0, x -> x.hand(0, 0, 0), 43);
        Edge.taken("P22 of WINTERS, as one", () -> Made.onDay(29), x -> x.allow(1) ? x.winters(night, 1) + x.undo() : -5, 2 + 29,
            x -> x.about(3) + x.of(0, 4) + x.of(1, 4), 29);
    }

    private static UnlearnedHand taughtOn(int day) {
        UnlearnedHand x = Made.onDay(day);
        x.teach(0, 0, 50);
        return x;
    }
}
