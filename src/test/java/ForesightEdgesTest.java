/** The edges of promises 26 to 29: what one has in days to come, when one is free, how long a turn lasts, which wrongs to teach. */
public final class ForesightEdgesTest {
    public static void main(String[] args) {
        foretoldOthers();
        foretold();
        foretoldBeyond();
        foretoldLikeNights();
        freeOthers();
        free();
        freeBeyond();
        lastsOthers();
        lasts();
        lastsTwoHundred();
        lastsAndFree();
        wrongsOthers();
        wrongsByHowMany();
        wrongsOfLikeOnes();
        wrongsAtTheirEdges();
        wrongsTrialsAside();
        wrongsLaws();
        Due.end();
    }

    private static void foretoldOthers() {
        for (int n : Edge.beyond(1, 60)) {
            Edge.stays("P26 NONE for others: n " + n, Made::lived, x -> x.foretold(n, 0), -1);
            Edge.stays("P26 NONE for others, of a FREE one: n " + n, Made::freed, x -> x.foretold(n, 1), -1);
        }
        for (int man : Edge.beyond(0, 1)) {
            Edge.stays("P26 NONE for others: MAN " + man, Made::lived, x -> x.foretold(1, man), -1);
        }
        Edge.stays("P26 NONE: nobody", Made::fresh, x -> x.foretold(1, 0), -1);
        Edge.stays("P26 without TURNS", () -> Made.turnsAndMen(0, 1), x -> x.foretold(60, 0), 0);
    }

    /** One man who has been taught so much in each turn, by a text if there is any. */
    private static UnlearnedHand one(String text, int... rights) {
        UnlearnedHand x = Made.turnsAndMen(rights.length, 2);
        if (!text.isEmpty()) {
            Due.is("the text of a test: " + text, Due.text(x, text), 0);
            x.by(0);
        }
        for (int turn = 0; turn < rights.length; turn++) {
            if (rights[turn] > 0) {
                x.teach(0, turn, rights[turn]);
            }
        }
        return x;
    }

    private static void foretold() {
        Edge.stays("P26 1 is the least: 1 less 1", () -> one("", 1, 2), x -> x.foretold(1, 0), 2);
        Edge.stays("P26 60 is the most: 60 less 60", () -> one("", 60, 61, 99), x -> x.foretold(60, 0), 6);
        Edge.stays("P26 59 of 60", () -> one("", 60, 61, 99), x -> x.foretold(59, 0), 7);
        Edge.stays("P26 not of another MAN", () -> one("", 60, 61, 99), x -> x.foretold(1, 1), 0);
        Edge.stays("P26 the last MAN and the last TURN", Made::allMen, x -> x.foretold(4, 5), 1);
        Edge.stays("P26 the last MAN and the last TURN", Made::allMen, x -> x.foretold(5, 5), 0);
        Edge.stays("P26 a FREE one HAS what it HAS", Made::freed, x -> x.foretold(60, 1), 5);
        Edge.stays("P26 what is SUNG stays", Made::lived, x -> x.foretold(60, 0), 2);
        Edge.stays("P26 TRIED on DAY 30: FREE, and nothing fades from then on", () -> allowing(1, 31, 30), x -> x.foretold(60, 0), 1);
        Edge.stays("P26 TRIED on DAY 30: not FREE with two of one", () -> allowing(1, 32, 31), x -> x.foretold(60, 0), 0);
        Edge.stays("P26 on DAY 29 not FREE yet", () -> allowing(1, 31, 30), x -> x.foretold(29, 0), 3);
        Edge.stays("P26 FREE on DAY 60 too", () -> allowing(1, 61, 60), x -> x.foretold(60, 0), 1);
    }

    private static UnlearnedHand allowing(int turns, int... rights) {
        UnlearnedHand x = one("", rights);
        x.allow(turns);
        return x;
    }

    private static void foretoldBeyond() {
        Edge.stays("P26 999 doesn't bound it: 9 and 9", () -> taughtOn(999, 9), x -> x.foretold(9, 0), 2);
        Edge.stays("P26 999 doesn't bound it: 10 and 9", () -> taughtOn(999, 10), x -> x.foretold(9, 0), 3);
        Edge.stays("P26 999 doesn't bound it: from DAY 990, 12 and 11", () -> taughtOn(990, 12), x -> x.foretold(11, 0), 3);
        Edge.stays("P26 999 doesn't bound it: from DAY 990, 12 and 12", () -> taughtOn(990, 12), x -> x.foretold(12, 0), 2);
        Edge.stays("P26 999 doesn't bound it: 60 NIGHTS", () -> taughtOn(999, 60), x -> x.foretold(60, 0), 2);
        Edge.stays("P26 999 doesn't bound it: DAY grows on", () -> dayLaw(999), x -> x.foretold(11, 0), 1);
        Edge.stays("P26 999 doesn't bound it: DAY grows on", () -> dayLaw(999), x -> x.foretold(12, 0), 0);
        Edge.stays("P26 DAY stays 999", Made::lastDay, x -> x.foretold(60, 0) >= 0 ? x.about(3) : -5, 999);
    }

    /** As the object on that day, but man 0 is taught turn 0 as well. */
    private static UnlearnedHand taughtOn(int day, int right) {
        UnlearnedHand x = Made.onDay(day);
        x.teach(0, 0, right);
        return x;
    }

    /** Turn 0 alone is had, till the night that follows day 1010. */
    private static UnlearnedHand dayLaw(int day) {
        UnlearnedHand x = taughtOn(day, 99);
        Due.text(x, "has turn=0 and right>0; fades day/1010*99;");
        x.by(0);
        return x;
    }

    /** Foretold for n nights is what n nights bring, trials among them. */
    private static void foretoldLikeNights() {
        for (int n = 1; n <= 60; n += n < 8 ? 1 : 7) {
            for (int allowed = 0; allowed < 3; allowed++) {
                UnlearnedHand x = Made.lived();
                UnlearnedHand y = Made.lived();
                x.allow(allowed);
                y.allow(allowed);
                int count = y.night(n);
                int freed = 0;
                for (int man = 0; man < 2; man++) {
                    Due.is("P26 as NIGHTS bring it: " + n, x.foretold(n, man), y.of(man, 1));
                    Due.is("P27 as NIGHTS bring it: " + n, x.free(n, man) >= 0, y.of(man, 4) == 1);
                    freed += x.free(n, man) >= 0 ? 1 : 0;
                }
                Due.is("P27 as many as NIGHTS free: " + n, freed, count);
            }
        }
    }

    private static void freeOthers() {
        for (int n : Edge.beyond(1, 60)) {
            Edge.stays("P27 NONE for others: n " + n, Made::lived, x -> x.free(n, 0), -1);
            Edge.stays("P27 NONE for others, of a FREE one: n " + n, Made::freed, x -> x.free(n, 1), -1);
        }
        for (int man : Edge.beyond(0, 1)) {
            Edge.stays("P27 NONE for others: MAN " + man, Made::lived, x -> x.free(60, man), -1);
        }
        Edge.stays("P27 NONE: nobody", Made::fresh, x -> x.free(1, 0), -1);
    }

    private static void free() {
        Edge.stays("P27 0: it is", Made::freed, x -> x.free(1, 1), 0);
        Edge.stays("P27 0: it is, for the most NIGHTS", Made::freed, x -> x.free(60, 1), 0);
        Edge.stays("P27 another isn't", Made::freed, x -> x.free(1, 0), -1);
        Edge.stays("P27 in 30 of 30", () -> Made.turnsAndMen(1, 1), x -> x.free(30, 0), 30);
        Edge.stays("P27 none in 29", () -> Made.turnsAndMen(1, 1), x -> x.free(29, 0), -1);
        Edge.stays("P27 in 30 of 60", () -> Made.turnsAndMen(1, 1), x -> x.free(60, 0), 30);
        Edge.stays("P27 in 60 of 60: 31", () -> one("", 31), x -> x.free(60, 0), 60);
        Edge.stays("P27 none in 59: 31", () -> one("", 31), x -> x.free(59, 0), -1);
        Edge.stays("P27 in 60 of 60: 60", () -> one("", 60), x -> x.free(60, 0), 60);
        Edge.stays("P27 none in 60: 61", () -> one("", 61), x -> x.free(60, 0), -1);
        Edge.stays("P27 in 1, from DAY 29", () -> allowedOn(29), x -> x.free(1, 0), 1);
        Edge.stays("P27 none in 1, from DAY 28", () -> allowedOn(28), x -> x.free(1, 0), -1);
        Edge.stays("P27 in 2, from DAY 28", () -> allowedOn(28), x -> x.free(2, 0), 2);
        Edge.stays("P27 in 30, from DAY 30", () -> allowedOn(30), x -> x.free(60, 0), 30);
        Edge.stays("P27 in 29, from DAY 31", () -> allowedOn(31), x -> x.free(60, 0), 29);
        Edge.stays("P27 allowed as now: all eight", () -> allowing(8, 99), x -> x.free(60, 0), 30);
        Edge.stays("P27 without TURNS", () -> Made.turnsAndMen(0, 1), x -> x.free(30, 0), 30);
    }

    private static UnlearnedHand allowedOn(int day) {
        UnlearnedHand x = Made.onDay(day);
        x.allow(1);
        return x;
    }

    private static void freeBeyond() {
        Edge.stays("P27 999 doesn't bound it: on DAY 1020", () -> allowedOn(999), x -> x.free(60, 0), 21);
        Edge.stays("P27 999 doesn't bound it: none in 20", () -> allowedOn(999), x -> x.free(20, 0), -1);
        Edge.stays("P27 999 doesn't bound it: in 21", () -> allowedOn(999), x -> x.free(21, 0), 21);
        Edge.stays("P27 999 doesn't bound it: on DAY 1050", () -> taughtAndAllowed(999, 22), x -> x.free(60, 0), 51);
    }

    private static UnlearnedHand taughtAndAllowed(int day, int right) {
        UnlearnedHand x = taughtOn(day, right);
        x.allow(1);
        return x;
    }

    private static void lastsOthers() {
        for (int man : Edge.beyond(0, 1)) {
            Edge.stays("P28 NONE for others: MAN " + man, Made::lived, x -> x.lasts(man, 0), -1);
        }
        for (int turn : Edge.beyond(0, 2)) {
            Edge.stays("P28 NONE for others: TURN " + turn, Made::lived, x -> x.lasts(0, turn), -1);
        }
        Edge.stays("P28 NONE: nobody, nothing", Made::fresh, x -> x.lasts(0, 0), -1);
    }

    private static void lasts() {
        Edge.stays("P28 1 is the least", () -> one("", 1), x -> x.lasts(0, 0), 1);
        Edge.stays("P28 2", () -> one("", 2), x -> x.lasts(0, 0), 2);
        Edge.stays("P28 99", () -> one("", 99), x -> x.lasts(0, 0), 99);
        Edge.stays("P28 none if it hasn't it", () -> one("", 0, 5), x -> x.lasts(0, 0), -1);
        Edge.stays("P28 none if it hasn't it: RIGHT like WRONG", () -> misled(9, 9), x -> x.lasts(0, 0), -1);
        Edge.stays("P28 RIGHT one above WRONG", () -> misled(9, 8), x -> x.lasts(0, 0), 1);
        Edge.stays("P28 none: SUNG", Made::lived, x -> x.lasts(0, 1), -1);
        Edge.stays("P28 of another MAN none", () -> one("", 99), x -> x.lasts(1, 0), -1);
        Edge.stays("P28 first: not when it HAS it again", () -> one("has right=9 or right=5;", 9), x -> x.lasts(0, 0), 1);
        Edge.stays("P28 that it HAS now: not in days to come", () -> one("has right<9;", 9), x -> x.lasts(0, 0), -1);
        Edge.stays("P28 the last MAN and the last TURN", Made::allTurns, x -> x.lasts(0, 7), 5);
        Edge.stays("P28 999 doesn't bound it", () -> taughtOn(999, 99), x -> x.lasts(0, 0), 99);
        Edge.stays("P28 999 doesn't bound it: DAY grows on", () -> dayLaw(999), x -> x.lasts(0, 0), 12);
    }

    private static UnlearnedHand misled(int right, int wrong) {
        UnlearnedHand x = one("pushes 0;", right);
        x.mislead(0, 0, wrong);
        return x;
    }

    private static void lastsTwoHundred() {
        for (int nights : new int[] {100, 101, 127, 128, 129, 198, 199, 200, 201, 202, 256}) {
            int due = nights > 200 ? -1 : nights;
            String why = due < 0 ? "P28 none in 200: " : "P28 1 .. 200: ";
            Edge.stays(why + nights, () -> one("has right>0; fades (day+1)/" + nights + "*99;", 9), x -> x.lasts(0, 0), due);
        }
        Edge.stays("P28 none: it never fades", () -> one("fades 0;", 9), x -> x.lasts(0, 0), -1);
        Edge.stays("P28 none: it grows", () -> one("fades -9;", 9), x -> x.lasts(0, 0), -1);
    }

    private static void lastsAndFree() {
        Edge.stays("P28 none if it becomes FREE with it: 31 on DAY 30", () -> allowing(1, 31), x -> x.lasts(0, 0), -1);
        Edge.stays("P28 gone in the NIGHT by which it is FREE: 30", () -> allowing(1, 30), x -> x.lasts(0, 0), 30);
        Edge.stays("P28 gone in the NIGHT by which it is FREE: 30 of none allowed", () -> allowing(0, 30), x -> x.lasts(0, 0), 30);
        Edge.stays("P28 not FREE with two of one", () -> allowing(1, 31, 31), x -> x.lasts(0, 0), 31);
        Edge.stays("P28 not FREE on DAY 30, FREE with it on DAY 60", () -> allowing(1, 61, 32), x -> x.lasts(0, 0), -1);
        Edge.stays("P28 none: it is FREE with it", Made::freed, x -> x.lasts(1, 2), -1);
        Edge.stays("P28 none: it is FREE without it", Made::freed, x -> x.lasts(1, 1), -1);
    }

    private static void wrongsOthers() {
        for (int man : Edge.beyond(0, 1)) {
            Edge.stays("P29 NONE for others: MAN " + man, Made::lived, x -> x.wrongs(man, 2, 50, 0, -1), -1);
        }
        for (int n : Edge.beyond(1, 4)) {
            Edge.stays("P29 NONE for others: n " + n, Made::lived, x -> x.wrongs(0, n, 50, 8, -1), -1);
        }
        for (int k : Edge.beyond(1, 99)) {
            Edge.stays("P29 NONE for others: k " + k, Made::lived, x -> x.wrongs(0, 2, k, 8, -1), -1);
        }
        for (int b : Edge.beyond(0, 8)) {
            Edge.stays("P29 NONE for others: b " + b, Made::lived, x -> x.wrongs(0, 2, 50, b, -1), -1);
        }
        for (int n = 1; n <= 4; n++) {
            int nights = n;
            for (int i : Edge.beyond(-1, n - 1)) {
                Edge.stays("P29 NONE: there is none such: " + i + " of " + n, Made::lived, x -> x.wrongs(0, nights, 50, 8, i), -1);
            }
        }
        Edge.stays("P29 NONE of a FREE one", Made::freed, x -> x.wrongs(1, 2, 50, 8, -1), -1);
        Edge.stays("P29 NONE: nobody", Made::fresh, x -> x.wrongs(0, 1, 1, 8, -1), -1);
    }

    /** All that wrongs answers: how many lessons, then the turn of each night. */
    private static void plan(String sentence, Edge.Maker maker, int k, int b, int lessons, int... nights) {
        Edge.stays("P29 " + sentence + ": how many lessons", maker, x -> x.wrongs(0, nights.length, k, b, -1), lessons);
        for (int i = 0; i < nights.length; i++) {
            int it = i;
            Edge.stays("P29 " + sentence + ": NIGHT " + i, maker, x -> x.wrongs(0, nights.length, k, b, it), nights[i]);
        }
    }

    private static void wrongsByHowMany() {
        Edge.Maker three = () -> one("fades 0; pushes 99;", 5, 5, 5);
        plan("b 3: none is too many", three, 10, 3, 0, 8, 8, 8);
        plan("b 8", three, 10, 8, 0, 8, 8, 8);
        plan("b 2: one lesson", three, 10, 2, 1, 8, 8, 0);
        plan("b 1: two lessons", three, 10, 1, 2, 8, 0, 1);
        plan("b 0: three lessons", three, 10, 0, 3, 0, 1, 2);
        plan("b 0 in two NIGHTS: none", three, 10, 0, -1, -1, -1);
        plan("b 1 in two NIGHTS", three, 10, 1, 2, 0, 1);
        plan("b 2 in one NIGHT", three, 10, 2, 1, 0);
        plan("b 1 in one NIGHT: none", three, 10, 1, -1, -1);
        plan("b 0 in four NIGHTS", three, 10, 0, 3, 8, 0, 1, 2);
        Edge.Maker eight = () -> one("fades 0; pushes 99;", 5, 5, 5, 5, 5, 5, 5, 5);
        plan("b 8 of eight", eight, 10, 8, 0, 8, 8, 8, 8);
        plan("b 7 of eight", eight, 10, 7, 1, 8, 8, 8, 0);
        plan("b 4 of eight", eight, 10, 4, 4, 0, 1, 2, 3);
        plan("b 3 of eight: none", eight, 10, 3, -1, -1, -1, -1, -1);
        plan("the last TURN alone", () -> one("fades 0; pushes 99;", 0, 0, 0, 0, 0, 0, 0, 5), 10, 0, 1, 8, 8, 8, 7);
        plan("without TURNS", () -> Made.turnsAndMen(0, 1), 10, 0, 0, 8, 8, 8, 8);
        plan("without TURNS, one NIGHT", () -> Made.turnsAndMen(0, 1), 10, 0, 0, 8);
        plan("what fades anyhow wants no lesson", () -> one("", 2, 9), 1, 1, 0, 8, 8);
        plan("what fades anyhow but one NIGHT too late", () -> one("pushes 1;", 3, 9), 1, 1, 1, 8, 0);
    }

    private static void wrongsOfLikeOnes() {
        // One lesson is enough, in whichever night and turn.
        plan("of like ones none ahead of all", () -> one("fades 0; pushes 99;", 5, 5), 10, 1, 1, 8, 8, 8, 0);
        // Only turn 1 can be made to go.
        plan("none ahead of all, then the TURN that does", () -> one("fades 0; pushes turn*99; has right>0;", 5, 5), 10, 1, 1, 8, 8, 8, 1);
        // A lesson in the first night alone is early enough.
        plan("in the first NIGHT alone", () -> one("fades wrong; has right>0;", 40), 10, 0, 1, 0, 8, 8, 8);
        plan("in the second NIGHT, as none is ahead", () -> one("fades wrong; has right>0;", 34), 10, 0, 1, 8, 0, 8, 8);
        // Either turn would do in the second night, so that the lowest is taken.
        plan("then the lowest TURN", () -> one("fades wrong; has right>0;", 90, 34, 34), 10, 2, 1, 8, 1, 8, 8);
        plan("the lowest TURN, though another in a later NIGHT", () -> one("fades wrong; has right>0;", 34, 15), 10, 1, 1, 8, 8, 8, 1);
        plan("the fewest lessons ahead of none first", () -> one("fades wrong; has right>0; pushes 0;", 60, 60), 15, 1, 1, 0, 8, 8, 8);
        plan("two lessons of one TURN, as late as can be", () -> one("fades 0; pushes much; has right>0;", 20), 10, 0, 2, 8, 8, 0, 0);
        plan("three lessons of two TURNS", () -> one("fades 0; pushes much; has right>0;", 20, 10), 10, 0, 3, 8, 0, 0, 1);
        plan("three lessons of two TURNS, the lowest first", () -> one("fades 0; pushes much; has right>0;", 10, 20), 10, 0, 3, 8, 0, 1, 1);
        plan("four lessons of one TURN", () -> one("fades 0; pushes much; has right>0;", 40), 10, 0, 4, 0, 0, 0, 0);
        plan("four lessons are too few", () -> one("fades 0; pushes much; has right>0;", 41), 10, 0, -1, -1, -1, -1, -1);
    }

    private static void wrongsAtTheirEdges() {
        plan("k 1 is the least", () -> one("fades 0; pushes 0;", 1), 1, 0, 1, 8, 0);
        plan("k 1, WRONG one too few", () -> one("fades 0; pushes 0;", 2), 1, 0, 2, 0, 0);
        plan("k 99 is the most", () -> one("fades 0; pushes 0;", 99), 99, 0, 1, 8, 0);
        plan("k 98, WRONG one too few", () -> one("fades 0; pushes 0;", 99), 98, 0, 2, 0, 0);
        plan("WRONG is 99 at most", () -> one("fades 0; pushes 0; has wrong<100 and right>0 and not wrong>99;", 9), 99, 0, -1, -1, -1);
        plan("RIGHT from 0", () -> one("fades 0; has right#0;", 9), 99, 0, 1, 8, 0);
        plan("SUNG: WRONG alone counts", () -> sung(50), 50, 0, 1, 8, 0);
        plan("SUNG: WRONG one too few", () -> sung(51), 50, 0, 2, 0, 0);
        plan("TIED doesn't matter", ForesightEdgesTest::tied, 50, 0, 1, 8, 0);
        plan("half of k, cut", () -> one("fades 0; drops 99; has right>0;", 3), 3, 0, -1, -1, -1);
        plan("half of k, cut, thrice", () -> one("fades 0; drops 99; has right>0;", 3), 3, 0, 3, 0, 0, 0);
    }

    private static UnlearnedHand sung(int right) {
        UnlearnedHand x = one("", right);
        x.sing(0, 0, true);
        return x;
    }

    private static UnlearnedHand tied() {
        UnlearnedHand x = one("", 50);
        x.tie(0, 0);
        return x;
    }

    private static void wrongsTrialsAside() {
        Edge.Maker on29 = () -> allowedOn(29);
        plan("TRIALS aside: none is FREE by them, on DAY 30", on29, 99, 0, 1, 8, 8, 1);
        Edge.Maker fading = () -> {
            UnlearnedHand x = taughtOn(29, 4);
            x.allow(8);
            return x;
        };
        plan("TRIALS aside: what fades fades on behind DAY 30", fading, 1, 1, 0, 8, 8, 8, 8);
        plan("TRIALS aside: what fades fades on behind DAY 30, but one NIGHT too few", fading, 2, 1, 1, 8, 8, 0);
        Edge.Maker on999 = () -> taughtOn(999, 50);
        plan("999 doesn't bound it", on999, 99, 0, 2, 8, 8, 0, 1);
        plan("DAY grows on: not in its last", () -> dayLaw(999), 1, 0, -1, -1, -1, -1, -1);
        plan("DAY grows by the NIGHTS", () -> one("has right>0; fades (day+1)/4*99;", 9), 1, 0, 0, 8, 8, 8, 8);
        plan("DAY grows by the NIGHTS, but not enough", () -> one("has right>0; fades (day+1)/4*99; pushes 0;", 9), 1, 0, -1, -1, -1, -1);
    }

    private static void wrongsLaws() {
        plan("a NIGHT behind each lesson: WRONG drops", () -> one("fades 0; pushes 0; drops 5;", 10), 10, 0, 2, 0, 0);
        plan("a NIGHT behind each lesson: WRONG drops, enough is left", () -> one("fades 0; pushes 0; drops 5;", 10), 15, 0, 1, 8, 0);
        String[] either = {"1<2", "1<=2", "2>1", "2>=1", "1=1", "1#2", "not 1=2", "1=1 or 1=2", "1=1 or 1=1", "1=1 and 1=1", "not not 1=1"};
        for (String is : either) {
            plan("b TURNS at most, each counted once: " + is, () -> one("has " + is + ";", 5, 5), 10, 2, 0, 8, 8);
            plan("b TURNS at most, none goes: " + is, () -> one("has " + is + ";", 5, 5), 10, 1, -1, -1, -1);
        }
        plan("a NIGHT behind the lesson: RIGHT grows", () -> one("fades -9; pushes 0;", 10), 18, 0, -1, -1);
        plan("a NIGHT behind the lesson: RIGHT grows, and WRONG is like it", () -> one("fades -9; pushes 0;", 10), 19, 0, 1, 0);
    }
}
