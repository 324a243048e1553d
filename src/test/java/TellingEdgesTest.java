/** The edges of promises 1 to 6: a new object, and what is told. */
public final class TellingEdgesTest {
    public static void main(String[] args) {
        nobody();
        theFirstImage();
        objectsOfTheirOwn();
        worth();
        eightTurns();
        aNewTurn();
        leads();
        leadsFarApart();
        pride();
        sixMen();
        aNewMan();
        setsOfSmells();
        sixSmells();
        allowed();
        Due.end();
    }

    private static void nobody() {
        UnlearnedHand x = new UnlearnedHand();
        String[] what = {"no TURNS", "no MEN", "no SMELLS", "DAY: at first 0", "X: at first 73", "no TEXTS", "THE TEXT: at first none",
            "no STEPS", "nothing DONE", "allowed: at first 0", "no tape"};
        int[] due = {0, 0, 0, 0, 73, 0, -1, 0, 0, 0, 0};
        for (int i = 0; i < due.length; i++) {
            Due.is("P1 a new object: " + what[i], x.about(i), due[i]);
        }
        Due.is("P1 Nobody: no MAN 0", x.of(0, 0), -2);
        Due.is("P1 Nobody: no hand", x.hand(0, 0, 0), -100);
        Due.is("P1 no TURN 0", x.ofTurn(0, 0), -1);
        Due.is("P1 no SMELL 0", x.back(1), -1);
        Due.is("P1 no STEP to take back", x.undo(), -1);
        Due.is("P1 no FAULT yet", x.fault(0), -1);
        Due.is("P1 no place yet", x.fault(1), -1);
        Due.is("P1 no TEXT 0", x.played(0), -2);
        Due.is("P1 NONE = -1", UnlearnedHand.NONE, -1);
    }

    private static void theFirstImage() {
        UnlearnedHand x = new UnlearnedHand();
        Due.is("P1 THE IMAGE is this, at once", x.again(), 0);
        Edge.sameAll("P1 THE IMAGE is this, at once", x, new UnlearnedHand());
        UnlearnedHand y = Made.turnsAndMen(8, 6);
        y.leads(0, 1);
        y.smell(3);
        y.allow(8);
        y.teach(5, 7, 9);
        y.winters(5, 30);
        y.night(60);
        y.done(7, true);
        Due.text(y, "has 1=1; fades 7; drops 7;");
        y.by(0);
        Due.is("P1 THE IMAGE is this, after all", y.again(), 0);
        Edge.sameTold("P1 THE IMAGE is this, after all", y, new UnlearnedHand());
        Due.is("P1 THE IMAGE is this: no STEPS", y.undo(), -1);
        // What is told anew finds nothing of what was there.
        UnlearnedHand z = Made.turnsAndMen(8, 6);
        for (int turn = 0; turn < 8; turn++) {
            y.turn(1 + turn);
        }
        for (int man = 0; man < 6; man++) {
            y.man(man);
        }
        Edge.sameTold("P1 THE IMAGE is this, told anew", y, z);
        Edge.sameMen("P1 THE IMAGE is this, told anew", y, z);
    }

    private static void objectsOfTheirOwn() {
        UnlearnedHand x = new UnlearnedHand();
        Made.lived().image();
        Edge.sameAll("P1 Nobody, whatever others hold", x, new UnlearnedHand());
    }

    private static void worth() {
        for (int worth : Edge.beyond(1, 99)) {
            Edge.stays("P2 NONE for others: WORTH " + worth, Made::lived, x -> x.turn(worth), -1);
            Edge.stays("P2 NONE for others, at first: WORTH " + worth, Made::fresh, x -> x.turn(worth), -1);
        }
        Edge.taken("P2 WORTH 1 .. 99: 1 is the least", Made::fresh, x -> x.turn(1), 0, x -> x.ofTurn(0, 0), 1);
        Edge.taken("P2 WORTH 1 .. 99: 99 is the most", Made::fresh, x -> x.turn(99), 0, x -> x.ofTurn(0, 0), 99);
        Edge.taken("P2 two TURNS may be of one WORTH", Made::plain, x -> x.turn(7), 3, x -> x.ofTurn(3, 0), 7);
    }

    private static void eightTurns() {
        UnlearnedHand x = new UnlearnedHand();
        for (int i = 0; i < 8; i++) {
            Due.is("P2 A TURN: its number", x.turn(99 - i), i);
            Due.is("P2 TURNS are told one by one", x.about(0), i + 1);
        }
        for (int i = 0; i < 8; i++) {
            Due.is("P2 WORTH of each", x.ofTurn(i, 0), 99 - i);
        }
        Edge.stays("P2 NONE, if there are 8", Made::allTurns, y -> y.turn(5), -1);
        Edge.stays("P2 NONE, if there are 8, for others too", Made::allTurns, y -> y.turn(0), -1);
        Edge.taken("P2 a refused TURN has no number", Made::fresh, y -> y.turn(0) + y.turn(100) + y.turn(50), -2, y -> y.about(0), 1);
    }

    private static void aNewTurn() {
        UnlearnedHand x = Made.lived();
        Due.is("P2 a TURN told late", x.turn(11), 3);
        Due.is("P2 LEADS: at first none", x.ofTurn(3, 1), 0);
        Due.is("P2 LEADS: none come to it", x.ofTurn(0, 1) | x.ofTurn(1, 1) | x.ofTurn(2, 1), 6);
        for (int man = 0; man < 2; man++) {
            for (int what = 0; what < 3; what++) {
                Due.is("P2 RIGHT, WRONG, BEST at first 0 each: " + what, x.hand(man, 3, what), 0);
            }
            Due.is("P2 at first not SUNG", x.of(man, 2) >> 3, 0);
        }
        Due.is("P2 nobody is TIED at it", x.of(0, 3), 2);
        Due.is("P2 no STEP", x.about(7), Made.lived().about(7));
    }

    private static void leads() {
        for (int turn = 0; turn < 3; turn++) {
            int itself = turn;
            Edge.denied("P3 LEADS from a TURN to an unlike one: not " + turn, Made::lived, x -> x.leads(itself, itself));
        }
        for (int turn : Edge.beyond(0, 2)) {
            Edge.denied("P3 false for others: from " + turn, Made::lived, x -> x.leads(turn, 0));
            Edge.denied("P3 false for others: to " + turn, Made::lived, x -> x.leads(2, turn));
            Edge.denied("P3 false for others: both " + turn, Made::lived, x -> x.leads(turn, turn));
        }
        Edge.denied("P3 false without TURNS", Made::fresh, x -> x.leads(0, 1));
        Edge.denied("P3 false, if it is so already", Made::lived, x -> x.leads(0, 1));
        Edge.granted("P3 the other way round isn't so already", Made::lived, x -> x.leads(1, 0), x -> x.ofTurn(1, 1), 5);
        Edge.granted("P3 to one more", Made::lived, x -> x.leads(0, 2), x -> x.ofTurn(0, 1), 6);
        Edge.granted("P3 it isn't so by two LEADS", Made::lived, x -> x.leads(0, 2), x -> x.ofTurn(1, 1), 4);
        Edge.granted("P3 no STEP", Made::plain, x -> x.leads(0, 2), x -> x.about(7), 0);
    }

    private static void leadsFarApart() {
        UnlearnedHand x = Made.allTurns();
        Due.is("P3 from the first to the last", x.leads(0, 7), true);
        Due.is("P3 from the last to the first", x.leads(7, 0), true);
        Due.is("P3 seen then", x.ofTurn(0, 1), 128);
        Due.is("P3 seen then", x.ofTurn(7, 1), 1);
        for (int to = 1; to < 7; to++) {
            Due.is("P3 one to all others", x.leads(0, to), true);
        }
        Due.is("P3 seen then: to all others", x.ofTurn(0, 1), 254);
        Due.is("P3 false, if it is so already", x.leads(0, 6), false);
    }

    private static void pride() {
        for (int pride : Edge.beyond(0, 9)) {
            Edge.stays("P4 NONE for others: PRIDE " + pride, Made::lived, x -> x.man(pride), -1);
            Edge.stays("P4 NONE for others, at first: PRIDE " + pride, Made::fresh, x -> x.man(pride), -1);
        }
        Edge.taken("P4 PRIDE 0 .. 9: 0 is the least", Made::fresh, x -> x.man(0), 0, x -> x.of(0, 0), 0);
        Edge.taken("P4 PRIDE 0 .. 9: 9 is the most", Made::fresh, x -> x.man(9), 0, x -> x.of(0, 0), 9);
        Edge.taken("P4 two MEN may be of one PRIDE", Made::plain, x -> x.man(4), 2, x -> x.of(2, 0), 4);
    }

    private static void sixMen() {
        UnlearnedHand x = new UnlearnedHand();
        for (int i = 0; i < 6; i++) {
            Due.is("P4 A MAN: its number", x.man(9 - i), i);
            Due.is("P4 MEN are told one by one", x.about(1), i + 1);
        }
        for (int i = 0; i < 6; i++) {
            Due.is("P4 PRIDE of each", x.of(i, 0), 9 - i);
        }
        Edge.stays("P4 NONE, if there are 6", Made::allMen, y -> y.man(3), -1);
        Edge.stays("P4 NONE, if there are 6, for others too", Made::allMen, y -> y.man(10), -1);
        Edge.taken("P4 a refused MAN has no number", Made::fresh, y -> y.man(-1) + y.man(10) + y.man(5), -2, y -> y.about(1), 1);
    }

    private static void aNewMan() {
        UnlearnedHand x = Made.lived();
        Due.is("P4 a MAN told late", x.man(6), 2);
        for (int turn = 0; turn < 3; turn++) {
            for (int what = 0; what < 3; what++) {
                Due.is("P4 RIGHT, WRONG, BEST at first 0 each: " + turn + ", " + what, x.hand(2, turn, what), 0);
            }
        }
        Due.is("P4 HAS no TURN at first", x.of(2, 1), 0);
        Due.is("P4 at first not SUNG", x.of(2, 2), 0);
        Due.is("P4 TIED: at first none", x.of(2, 3), -1);
        Due.is("P4 FREE: at first not", x.of(2, 4), 0);
        Due.is("P4 no STEP", x.about(7), Made.lived().about(7));
        toldBehindNights();
    }

    /** Nights that teach, and a trial, ahead of all that is told then. */
    private static void toldBehindNights() {
        UnlearnedHand x = Made.ruled("fades -9;");
        x.night(29);
        x.winters(2, 1);
        x.foretold(60, 1);
        x.wrongs(0, 4, 9, 0, -1);
        Due.is("a trial has been", x.about(3), 30);
        int man = x.man(1);
        int turn = x.turn(1);
        for (int what = 0; what < 3; what++) {
            Due.is("P4 a MAN told behind NIGHTS that teach: at first 0: " + what, x.hand(man, 0, what), 0);
            Due.is("P2 a TURN told behind NIGHTS that teach: at first 0: " + what, x.hand(0, turn, what), 0);
            Due.is("P4 both told behind NIGHTS that teach: at first 0: " + what, x.hand(man, turn, what), 0);
        }
        Due.is("P4 a MAN told behind a trial: at first not FREE", x.of(man, 4), 0);
        Due.is("P4 the others were TRIED, and had too many", x.of(0, 4) + x.of(1, 4), 0);
    }

    private static void setsOfSmells() {
        for (int turns : Edge.beyond(1, 7)) {
            String why = turns == 0 ? "none" : "a set with a TURN that isn't told";
            Edge.stays("P5 NONE for others: " + why + ": " + turns, Made::lived, x -> x.smell(turns), -1);
        }
        Edge.stays("P5 NONE: told ones and one that isn't", Made::lived, x -> x.smell(7 + 8), -1);
        Edge.stays("P5 NONE: none, with all eight TURNS", Made::allTurns, x -> x.smell(0), -1);
        Edge.stays("P5 NONE: a ninth TURN", Made::allTurns, x -> x.smell(256), -1);
        Edge.stays("P5 NONE: without TURNS", Made::fresh, x -> x.smell(1), -1);
        Edge.taken("P5 one TURN", Made::allTurns, x -> x.smell(128), 0, x -> x.back(1), 128);
        Edge.taken("P5 all TURNS", Made::allTurns, x -> x.smell(255), 0, x -> x.back(1), 255);
        Edge.taken("P5 a set like another's", Made::lived, x -> x.smell(2), 2, x -> x.back(4), 6);
        Edge.taken("P5 a TURN that is told by now", Made::lived, x -> x.turn(1) + x.smell(8), 5, x -> x.back(4), 8);
        Edge.taken("P5 no STEP", Made::plain, x -> x.smell(1), 2, x -> x.about(7), 0);
    }

    private static void sixSmells() {
        UnlearnedHand x = Made.turnsAndMen(8, 0);
        for (int i = 0; i < 6; i++) {
            Due.is("P5 A SMELL: its number", x.smell(1 << i + 2), i);
            Due.is("P5 SMELLS are told one by one", x.about(2), i + 1);
        }
        for (int i = 0; i < 6; i++) {
            Due.is("P5 the TURNS of each", x.back(1 << i), 1 << i + 2);
        }
        Edge.stays("P5 NONE, if there are 6", Made::allSmells, y -> y.smell(1), -1);
        Edge.stays("P5 NONE, if there are 6, for others too", Made::allSmells, y -> y.smell(0), -1);
        Edge.taken("P5 a refused SMELL has no number", Made::plain, y -> y.smell(0) + y.smell(8) + y.smell(4), 0, y -> y.about(2), 3);
    }

    private static void allowed() {
        for (int turns : Edge.beyond(0, 8)) {
            Edge.denied("P6 false for others: " + turns, Made::lived, x -> x.allow(turns));
        }
        Edge.granted("P6 0 .. 8: 0 is the least", Made::lived, x -> x.allow(0), x -> x.about(9), 0);
        Edge.granted("P6 0 .. 8: 8 is the most", Made::lived, x -> x.allow(8), x -> x.about(9), 8);
        Edge.granted("P6 more than there are TURNS", Made::fresh, x -> x.allow(5), x -> x.about(9), 5);
        Edge.granted("P6 as many as now", Made::lived, x -> x.allow(1), x -> x.about(9), 1);
        Edge.granted("P6 no STEP", Made::plain, x -> x.allow(3), x -> x.about(7), 0);
        Edge.granted("P6 nobody is FREE by that", Made::plain, x -> x.allow(8), x -> x.of(0, 4), 0);
    }
}
