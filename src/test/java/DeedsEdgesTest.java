/** The edges of promises 7 to 13: what is done to men by hand. */
public final class DeedsEdgesTest {
    public static void main(String[] args) {
        others();
        freeOnes();
        teach();
        best();
        tiedToTeach();
        mislead();
        misleadSung();
        pushes();
        drink();
        sing();
        tie();
        smelt();
        smeltFarAway();
        tried();
        triedByLaw();
        Due.end();
    }

    private static void others() {
        for (int man : Edge.beyond(0, 1)) {
            Edge.stays("P7 NONE for others: MAN " + man, Made::lived, x -> x.teach(man, 0, 5), -1);
            Edge.stays("P8 NONE for others: MAN " + man, Made::lived, x -> x.mislead(man, 0, 5), -1);
            Edge.denied("P9 false for others: MAN " + man, Made::lived, x -> x.drink(man));
            Edge.denied("P10 false for others: MAN " + man, Made::lived, x -> x.sing(man, 0, true));
            Edge.denied("P10 false for others, unsung: MAN " + man, Made::lived, x -> x.sing(man, 1, false));
            Edge.denied("P11 false for others: MAN " + man, Made::lived, x -> x.tie(man, 1));
            Edge.denied("P11 false for others, at none: MAN " + man, Made::lived, x -> x.tie(man, -1));
            Edge.stays("P12 NONE for others: MAN " + man, Made::lived, x -> x.smelt(man, 0), -1);
            Edge.stays("P13 NONE for others: MAN " + man, Made::lived, x -> x.tried(man), -1);
        }
        for (int turn : Edge.beyond(0, 2)) {
            Edge.stays("P7 NONE for others: TURN " + turn, Made::lived, x -> x.teach(1, turn, 5), -1);
            Edge.stays("P8 NONE for others: TURN " + turn, Made::lived, x -> x.mislead(1, turn, 5), -1);
            Edge.denied("P10 false for others: TURN " + turn, Made::lived, x -> x.sing(0, turn, true));
            Edge.denied("P10 false for others, unsung: TURN " + turn, Made::lived, x -> x.sing(0, turn, false));
        }
        for (int turn : Edge.beyond(-1, 2)) {
            Edge.denied("P11 false for others: TURN " + turn, Made::lived, x -> x.tie(0, turn));
        }
        for (int smell : Edge.beyond(0, 1)) {
            Edge.stays("P12 NONE for others: SMELL " + smell, Made::lived, x -> x.smelt(0, smell), -1);
        }
        for (int k : Edge.beyond(1, 99)) {
            Edge.stays("P7 NONE for others: k " + k, Made::lived, x -> x.teach(0, 0, k), -1);
            Edge.stays("P8 NONE for others: k " + k, Made::lived, x -> x.mislead(0, 0, k), -1);
        }
        Edge.stays("P7 nobody, nothing", Made::fresh, x -> x.teach(0, 0, 5), -1);
        Edge.stays("P8 nobody, nothing", Made::fresh, x -> x.mislead(0, 0, 5), -1);
        Edge.denied("P9 nobody", Made::fresh, x -> x.drink(0));
        Edge.denied("P10 nobody, nothing", Made::fresh, x -> x.sing(0, 0, true));
        Edge.denied("P11 nobody", Made::fresh, x -> x.tie(0, -1));
        Edge.stays("P12 nobody, nothing", Made::fresh, x -> x.smelt(0, 0), -1);
        Edge.stays("P13 nobody", Made::fresh, x -> x.tried(0), -1);
    }

    private static void freeOnes() {
        UnlearnedHand x = Made.freed();
        Due.is("the free man of these tests", x.of(1, 4), 1);
        Due.is("has what can be less", x.hand(1, 2, 0) < x.hand(1, 2, 2) && x.hand(1, 2, 0) > 0, true);
        Edge.stays("P7 NONE: A FREE one can't be TAUGHT", Made::freed, y -> y.teach(1, 0, 5), -1);
        Edge.stays("P8 NONE: A FREE one can't be MISLED", Made::freed, y -> y.mislead(1, 0, 5), -1);
        Edge.denied("P9 false: A FREE one can't be DRUNK", Made::freed, y -> y.drink(1));
        Edge.denied("P10 false: A FREE one can't be SUNG", Made::freed, y -> y.sing(1, 0, true));
        Edge.denied("P11 false: A FREE one can't be TIED", Made::freed, y -> y.tie(1, 0));
        Edge.stays("P12 NONE: A FREE one can't be SMELT", Made::freed, y -> y.smelt(1, 1), -1);
        Edge.stays("P13 NONE: A FREE one can't be TRIED", Made::freed, y -> y.tried(1), -1);
        Edge.taken("P7 another than the FREE one can", Made::freed, y -> y.teach(0, 0, 99), 99, y -> y.hand(1, 0, 0), x.hand(1, 0, 0));
        Edge.denied("P10 false: nor not SUNG any more", DeedsEdgesTest::freedSungAndTied, y -> y.sing(0, 1, false));
        Edge.denied("P11 false: nor TIED at none", DeedsEdgesTest::freedSungAndTied, y -> y.tie(0, -1));
    }

    private static UnlearnedHand freedSungAndTied() {
        UnlearnedHand x = Made.lived();
        x.allow(8);
        x.tried(0);
        return x;
    }

    private static void teach() {
        Edge.taken("P7 k 1 .. 99: 1 is the least", Made::plain, x -> x.teach(0, 0, 1), 1, x -> x.hand(0, 0, 0), 1);
        Edge.taken("P7 k 1 .. 99: 99 is the most", Made::plain, x -> x.teach(0, 0, 99), 99, x -> x.hand(0, 0, 0), 99);
        Edge.taken("P7 RIGHT is from 0 to 99: 98 and 1", Made::plain, x -> x.teach(0, 0, 98) + x.teach(0, 0, 1), 197, x -> x.hand(0, 0, 0), 99);
        Edge.taken("P7 what would be beyond is that: 98 and 2", Made::plain, x -> x.teach(0, 0, 98) + x.teach(0, 0, 2), 197, x -> x.hand(0, 0, 0), 99);
        Edge.taken("P7 what would be beyond is that: 99 and 99", Made::plain, x -> x.teach(0, 0, 99) + x.teach(0, 0, 99), 198, x -> x.hand(0, 0, 0), 99);
        Edge.taken("P7 a STEP, though RIGHT is 99 already", Made::plain, x -> x.teach(0, 0, 99) + x.teach(0, 0, 9), 198, x -> x.about(7), 2);
        Edge.taken("P7 SUNG doesn't matter", Made::lived, x -> x.teach(0, 1, 5), Made.lived().hand(0, 1, 0) + 5, x -> x.of(0, 2), 2);
        UnlearnedHand x = Made.plain();
        Due.is("P7 RIGHT of this MAN and this TURN", x.teach(1, 2, 7), 7);
        Due.is("P7 alone: not of another MAN", x.hand(0, 2, 0), 0);
        Due.is("P7 alone: not of another TURN", x.hand(1, 1, 0), 0);
        Due.is("P7 alone: not WRONG", x.hand(1, 2, 1), 0);
        UnlearnedHand y = Made.turnsAndMen(8, 6);
        Due.is("P7 the last MAN, the last TURN", y.teach(5, 7, 3), 3);
        Due.is("P7 the first MAN, the last TURN", y.hand(0, 7, 0), 0);
        Due.is("P7 the last MAN, the first TURN", y.hand(5, 0, 0), 0);
        Due.is("P7 the first MAN, the first TURN", y.teach(0, 0, 4), 4);
        Due.is("P7 the last ones stay", y.hand(5, 7, 0), 3);
    }

    private static void best() {
        UnlearnedHand x = Made.plain();
        x.teach(0, 0, 40);
        Due.is("P7 BEST grows with RIGHT", x.hand(0, 0, 2), 40);
        x.mislead(0, 0, 20);
        Due.is("P8 BEST is the most that RIGHT has been", x.hand(0, 0, 2), 40);
        Due.is("P7 RIGHT up to BEST", x.teach(0, 0, 10), 40);
        Due.is("P7 BEST is as it was", x.hand(0, 0, 2), 40);
        Due.is("P7 RIGHT above BEST", x.teach(0, 0, 1), 41);
        Due.is("P7 BEST grows by that", x.hand(0, 0, 2), 41);
        x.teach(0, 0, 99);
        Due.is("P7 BEST is 99 at most", x.hand(0, 0, 2), 99);
    }

    private static UnlearnedHand tied() {
        UnlearnedHand x = Made.lived();
        x.tie(0, 0);
        return x;
    }

    private static void tiedToTeach() {
        Edge.stays("P7 NONE: TIED at that: then it can't be", DeedsEdgesTest::tied, x -> x.teach(0, 0, 5), -1);
        Edge.taken("P7 TIED at another: it can be", DeedsEdgesTest::tied, x -> x.teach(0, 2, 5), 5, x -> x.of(0, 3), 0);
        Edge.taken("P7 another MAN isn't TIED at it", DeedsEdgesTest::tied, x -> x.teach(1, 0, 99), 99, x -> x.of(1, 3), -1);
        Edge.taken("P7 not TIED any more", DeedsEdgesTest::tied, x -> x.tie(0, -1) ? x.teach(0, 0, 99) : -5, 99, x -> x.of(0, 3), -1);
        Edge.taken("P8 TIED at that: it can be MISLED", DeedsEdgesTest::tied, x -> x.mislead(0, 0, 99), 0 + Math.max(0, tied().hand(0, 0, 0) - 33),
            x -> x.hand(0, 0, 1), 99);
        Edge.granted("P9 TIED: it can be DRUNK", DeedsEdgesTest::tied, x -> x.drink(0), x -> x.hand(0, 0, 0), tied().hand(0, 0, 0) - 3);
        Edge.granted("P10 TIED at that: it can be SUNG", DeedsEdgesTest::tied, x -> x.sing(0, 0, true), x -> x.of(0, 2), 3);
        Edge.taken("P12 TIED at that: it can be SMELT", DeedsEdgesTest::tied, x -> x.smelt(0, 1), 7, x -> x.hand(0, 0, 0), tied().hand(0, 0, 2));
    }

    private static UnlearnedHand taught(int right) {
        UnlearnedHand x = Made.plain();
        x.teach(0, 0, right);
        return x;
    }

    private static void mislead() {
        Edge.taken("P8 k 1 is the least, its half, cut, is 0", () -> taught(50), x -> x.mislead(0, 0, 1), 50, x -> x.hand(0, 0, 1), 1);
        Edge.taken("P8 half of 2 is 1", () -> taught(50), x -> x.mislead(0, 0, 2), 49, x -> x.hand(0, 0, 1), 2);
        Edge.taken("P8 half of 3, cut, is 1", () -> taught(50), x -> x.mislead(0, 0, 3), 49, x -> x.hand(0, 0, 1), 3);
        Edge.taken("P8 k 99 is the most, its half, cut, is 49", () -> taught(99), x -> x.mislead(0, 0, 99), 50, x -> x.hand(0, 0, 1), 99);
        Edge.taken("P8 WRONG is from 0 to 99: 98 and 1", () -> taught(9), x -> x.mislead(0, 0, 98) + x.mislead(0, 0, 1), 0, x -> x.hand(0, 0, 1), 99);
        Edge.taken("P8 WRONG beyond is that: 98 and 2", () -> taught(9), x -> x.mislead(0, 0, 98) + x.mislead(0, 0, 2), 0, x -> x.hand(0, 0, 1), 99);
        Edge.taken("P8 WRONG beyond is that: 99 and 99", () -> taught(9), x -> x.mislead(0, 0, 99) + x.mislead(0, 0, 99), 0, x -> x.hand(0, 0, 1), 99);
        Edge.taken("P8 RIGHT from 0: 5 less 5", () -> taught(5), x -> x.mislead(0, 0, 10), 0, x -> x.hand(0, 0, 0), 0);
        Edge.taken("P8 RIGHT below is 0: 5 less 6", () -> taught(5), x -> x.mislead(0, 0, 12), 0, x -> x.hand(0, 0, 0), 0);
        Edge.taken("P8 RIGHT below is 0: none less 49", Made::plain, x -> x.mislead(0, 0, 99), 0, x -> x.hand(0, 0, 0), 0);
        Edge.taken("P8 it pushes, though WRONG is 99 already", () -> taught(99), x -> x.mislead(0, 0, 99) + x.mislead(0, 0, 10), 50 + 45,
            x -> x.hand(0, 0, 1), 99);
        Edge.taken("P8 a STEP, though nothing changes", Made::plain, x -> x.mislead(0, 0, 99) + x.mislead(0, 0, 9), 0, x -> x.about(7), 2);
        Edge.taken("P8 not of another TURN", () -> taught(50), x -> x.mislead(0, 1, 40), 0, x -> x.hand(0, 0, 0), 50);
        Edge.taken("P8 not of another MAN", () -> taught(50), x -> x.mislead(1, 0, 40), 0, x -> x.hand(0, 0, 0), 50);
        Edge.taken("P8 WRONG not of another MAN", () -> taught(50), x -> x.mislead(1, 0, 40), 0, x -> x.hand(0, 0, 1), 0);
    }

    private static UnlearnedHand sung() {
        UnlearnedHand x = taught(50);
        x.sing(0, 0, true);
        return x;
    }

    private static void misleadSung() {
        Edge.taken("P8 unless it is SUNG: RIGHT stays", DeedsEdgesTest::sung, x -> x.mislead(0, 0, 40), 50, x -> x.hand(0, 0, 1), 40);
        Edge.taken("P8 SUNG by another MAN doesn't matter", DeedsEdgesTest::sung, x -> x.teach(1, 0, 50) + x.mislead(1, 0, 40), 80, x -> x.hand(1, 0, 1), 40);
        Edge.taken("P8 another TURN SUNG doesn't matter", DeedsEdgesTest::sung, x -> x.teach(0, 1, 50) + x.mislead(0, 1, 40), 80, x -> x.hand(0, 1, 1), 40);
        Edge.taken("P8 not SUNG any more", DeedsEdgesTest::sung, x -> x.sing(0, 0, false) ? x.mislead(0, 0, 40) : -5, 30, x -> x.hand(0, 0, 1), 40);
    }

    private static UnlearnedHand pushed(String sum, int right) {
        UnlearnedHand x = Made.ruled("pushes " + sum + ";");
        x.teach(0, 0, right);
        return x;
    }

    private static void pushes() {
        Edge.taken("P8 pushes: 0 at least: of -1", () -> pushed("0-1", 50), x -> x.mislead(0, 0, 9), 50, x -> x.hand(0, 0, 2), 50);
        Edge.taken("P8 pushes: 0 at least: of -1000000", () -> pushed("-9999*9999", 50), x -> x.mislead(0, 0, 9), 50, x -> x.hand(0, 0, 2), 50);
        Edge.taken("P8 pushes: 0", () -> pushed("0", 50), x -> x.mislead(0, 0, 9), 50, x -> x.hand(0, 0, 1), 9);
        Edge.taken("P8 pushes: 1", () -> pushed("1", 50), x -> x.mislead(0, 0, 9), 49, x -> x.hand(0, 0, 1), 9);
        Edge.taken("P8 pushes: 98", () -> pushed("98", 99), x -> x.mislead(0, 0, 1), 1, x -> x.hand(0, 0, 1), 1);
        Edge.taken("P8 pushes: 99 at most", () -> pushed("99", 99), x -> x.mislead(0, 0, 1), 0, x -> x.hand(0, 0, 1), 1);
        Edge.taken("P8 pushes: 99 at most: of 1000000", () -> pushed("9999*9999", 99), x -> x.mislead(0, 0, 1), 0, x -> x.hand(0, 0, 1), 1);
        Edge.taken("P8 pushes without: a text that has other laws alone", () -> Made.ruled("fades 9; drops 9;"),
            x -> x.teach(0, 0, 50) + x.mislead(0, 0, 21), 90, x -> x.hand(0, 0, 1), 21);
        Edge.taken("P8 much is k: 1", () -> pushed("much", 50), x -> x.mislead(0, 0, 1), 49, x -> x.hand(0, 0, 1), 1);
        Edge.taken("P8 much is k: 99", () -> pushed("much-50", 50), x -> x.mislead(0, 0, 99), 1, x -> x.hand(0, 0, 1), 99);
        Edge.taken("P8 WRONG is more by k, then RIGHT is less", () -> pushed("wrong", 50), x -> x.mislead(0, 0, 9), 41, x -> x.hand(0, 0, 1), 9);
        Edge.taken("P8 the WRONG that is 99 at most", () -> pushed("wrong-60", 99), x -> x.mislead(0, 0, 90) + x.mislead(0, 0, 90), 69 + 30,
            x -> x.hand(0, 0, 1), 99);
        Edge.taken("P8 the RIGHT that isn't less yet", () -> pushed("right/2", 50), x -> x.mislead(0, 0, 90), 25, x -> x.hand(0, 0, 1), 90);
    }

    private static void drink() {
        UnlearnedHand x = Made.turnsAndMen(8, 2);
        for (int turn = 0; turn < 8; turn++) {
            if (turn > 0) {
                x.teach(0, turn, turn);
            }
            x.teach(1, turn, 9);
        }
        x.sing(0, 6, true);
        x.mislead(0, 7, 1);
        Due.is("P9 DRUNK: true", x.drink(0), true);
        int[] due = {0, 0, 0, 0, 1, 2, 6, 4};
        for (int turn = 0; turn < 8; turn++) {
            String why = turn == 6 ? "P9 that aren't SUNG" : turn < 3 ? "P9 RIGHT from 0" : "P9 less by 3";
            Due.is(why + ": RIGHT of " + turn, x.hand(0, turn, 0), due[turn]);
            Due.is("P9 BEST stays: " + turn, x.hand(0, turn, 2), turn);
            Due.is("P9 all RIGHTS of a MAN: not of another: " + turn, x.hand(1, turn, 0), 9);
        }
        Due.is("P9 WRONG stays", x.hand(0, 7, 1), 1);
        Edge.granted("P9 without TURNS", () -> Made.turnsAndMen(0, 1), y -> y.drink(0), y -> y.about(7), 1);
        Edge.granted("P9 a STEP, though nothing is less", Made::plain, y -> y.drink(1), y -> y.about(7), 1);
        Edge.granted("P9 where all is SUNG", DeedsEdgesTest::sung, y -> y.drink(0), y -> y.hand(0, 0, 0), 50);
    }

    private static void sing() {
        Edge.denied("P10 false, if it is so: not SUNG at first", Made::lived, x -> x.sing(0, 0, false));
        Edge.denied("P10 false, if it is so: SUNG already", Made::lived, x -> x.sing(0, 1, true));
        Edge.granted("P10 SUNG that it wasn't", Made::lived, x -> x.sing(0, 0, true), x -> x.of(0, 2), 3);
        Edge.granted("P10 not SUNG any more", Made::lived, x -> x.sing(0, 1, false), x -> x.of(0, 2), 0);
        Edge.granted("P10 by this MAN alone", Made::lived, x -> x.sing(1, 1, true), x -> x.of(0, 2), 2);
        Edge.granted("P10 without any RIGHT", Made::plain, x -> x.sing(1, 2, true), x -> x.of(1, 2), 4);
        UnlearnedHand x = Made.turnsAndMen(8, 6);
        for (int turn = 0; turn < 8; turn++) {
            Due.is("P10 each TURN may be SUNG", x.sing(5, turn, true), true);
        }
        Due.is("P10 all are SUNG", x.of(5, 2), 255);
        Due.is("P10 each is a STEP", x.about(7), 8);
        Due.is("P10 RIGHT, WRONG, BEST stay", x.hand(5, 7, 0) + x.hand(5, 7, 1) + x.hand(5, 7, 2), 0);
    }

    private static void tie() {
        Edge.denied("P11 false, if it is so: at none at first", Made::lived, x -> x.tie(1, -1));
        Edge.denied("P11 false, if it is so: at that already", Made::lived, x -> x.tie(0, 2));
        Edge.denied("P11 false for others: -2 isn't NONE", Made::lived, x -> x.tie(0, -2));
        Edge.granted("P11 TIED at another", Made::lived, x -> x.tie(0, 0), x -> x.of(0, 3), 0);
        Edge.granted("P11 TIED at none", Made::lived, x -> x.tie(0, -1), x -> x.of(0, 3), -1);
        Edge.granted("P11 TURN 0 isn't none", Made::plain, x -> x.tie(0, 0), x -> x.of(0, 3), 0);
        Edge.granted("P11 two MEN at one TURN", Made::lived, x -> x.tie(1, 2), x -> x.of(0, 3), 2);
        Edge.granted("P11 the last MAN at the last TURN", () -> Made.turnsAndMen(8, 6), x -> x.tie(5, 7), x -> x.of(5, 3), 7);
        Edge.denied("P11 false: at none, without TURNS, if it is so", () -> Made.turnsAndMen(0, 1), x -> x.tie(0, -1));
        Edge.denied("P11 false: without TURNS", () -> Made.turnsAndMen(0, 1), x -> x.tie(0, 0));
        Edge.granted("P11 a STEP", Made::plain, x -> x.tie(0, 0) && x.tie(0, -1), x -> x.about(7), 2);
    }

    private static void smelt() {
        UnlearnedHand x = Made.plain();
        x.teach(0, 1, 40);
        x.mislead(0, 1, 20);
        x.teach(0, 0, 40);
        x.mislead(0, 0, 20);
        x.sing(0, 1, true);
        Due.is("P12 TURNS that come back, whether RIGHT was BEST or not", x.smelt(0, 0), 6);
        Due.is("P12 RIGHT is BEST there", x.hand(0, 1, 0), 40);
        Due.is("P12 WRONG stays", x.hand(0, 1, 1), 20);
        Due.is("P12 BEST stays", x.hand(0, 1, 2), 40);
        Due.is("P12 LEADS aren't gone the other way round", x.hand(0, 0, 0), 30);
        Due.is("P12 RIGHT stays 0 where BEST is 0", x.hand(0, 2, 0), 0);
        Due.is("P12 once more", x.smelt(0, 0), 6);
        Due.is("P12 a STEP, though RIGHT was BEST", x.about(7), 7);
        Due.is("P12 of another MAN nothing", x.smelt(1, 1), 7);
        Due.is("P12 of this MAN nothing then", x.hand(0, 0, 0), 30);
    }

    private static void smeltFarAway() {
        for (int way = 0; way < 2; way++) {
            UnlearnedHand x = Made.turnsAndMen(8, 1);
            for (int turn = 0; turn < 8; turn++) {
                int from = way == 0 ? turn : 7 - turn;
                int to = way == 0 ? turn + 1 : 6 - turn;
                Due.is("leads", x.leads(from, to), turn < 7);
                x.teach(0, turn, 10 + turn);
                x.mislead(0, turn, 10);
            }
            int first = way == 0 ? 0 : 7;
            int last = 7 - first;
            x.smell(1 << first);
            x.smell(1 << last);
            Due.is("P12 one behind the other: the last leads to none", x.smelt(0, 1), 1 << last);
            Due.is("P12 its RIGHT", x.hand(0, last, 0), 10 + last);
            Due.is("P12 not the first one's", x.hand(0, first, 0), 5 + first);
            Due.is("P12 one behind the other: the first to all", x.smelt(0, 0), 255);
            for (int turn = 0; turn < 8; turn++) {
                Due.is("P12 RIGHT is BEST there: " + turn, x.hand(0, turn, 0), 10 + turn);
            }
            x.leads(last, first);
            Due.is("P12 in a ring", x.smelt(0, 1), 255);
        }
    }

    private static UnlearnedHand hasTwo(int allowed) {
        UnlearnedHand x = Made.plain();
        x.teach(0, 0, 10);
        x.teach(0, 2, 10);
        x.allow(allowed);
        return x;
    }

    private static void tried() {
        Edge.taken("P13 no more than allowed: 2 of 1", () -> hasTwo(1), x -> x.tried(0), 2, x -> x.of(0, 4), 0);
        Edge.taken("P13 no more than allowed: 2 of 2", () -> hasTwo(2), x -> x.tried(0), 2, x -> x.of(0, 4), 1);
        Edge.taken("P13 no more than allowed: 2 of 3", () -> hasTwo(3), x -> x.tried(0), 2, x -> x.of(0, 4), 1);
        Edge.taken("P13 allowed at first 0: 2 of 0", () -> hasTwo(0), x -> x.tried(0), 2, x -> x.of(0, 4), 0);
        Edge.taken("P13 allowed at first 0: none of 0", Made::plain, x -> x.tried(1), 0, x -> x.of(1, 4), 1);
        Edge.taken("P13 without TURNS", () -> Made.turnsAndMen(0, 1), x -> x.tried(0), 0, x -> x.of(0, 4), 1);
        Edge.taken("P13 another isn't FREE by that", () -> hasTwo(2), x -> x.tried(0), 2, x -> x.of(1, 4), 0);
        Edge.taken("P13 a STEP, though it isn't FREE", () -> hasTwo(1), x -> x.tried(0), 2, x -> x.about(7), 3);
        Edge.taken("P13 a STEP, when it is FREE", () -> hasTwo(2), x -> x.tried(0), 2, x -> x.about(7), 3);
        Edge.taken("P13 a MAN HAS a TURN: RIGHT above WRONG, not like it", () -> hasTwo(8),
            x -> x.mislead(0, 0, 6) + x.mislead(0, 0, 1) == 14 && x.hand(0, 0, 1) == 7 ? x.tried(0) : -5, 1, x -> x.of(0, 1), 4);
        Edge.taken("P13 a MAN HAS a TURN: RIGHT above WRONG by one", () -> hasTwo(8),
            x -> x.mislead(0, 0, 6) == 7 ? x.tried(0) : -5, 2, x -> x.of(0, 1), 5);
        UnlearnedHand x = Made.turnsAndMen(8, 1);
        for (int turn = 0; turn < 8; turn++) {
            x.teach(0, turn, 1);
        }
        x.allow(7);
        Due.is("P13 all eight", x.tried(0), 8);
        Due.is("P13 8 of 7", x.of(0, 4), 0);
        x.allow(8);
        Due.is("P13 all eight", x.tried(0), 8);
        Due.is("P13 8 of 8", x.of(0, 4), 1);
    }

    private static void triedByLaw() {
        UnlearnedHand x = Made.ruled("has worth>4;");
        Due.is("P13 HAS by THE TEXT", x.tried(0), 2);
        Due.is("P13 not FREE by that", x.of(0, 4), 0);
        x.by(-1);
        Due.is("P13 HAS without", x.tried(0), 0);
        Due.is("P13 FREE by that", x.of(0, 4), 1);
        x.by(0);
        Due.is("P13 FREE stays, though it HAS more now", x.of(0, 4), 1);
        Due.is("P13 it HAS more now", x.of(0, 1), 6);
    }
}
