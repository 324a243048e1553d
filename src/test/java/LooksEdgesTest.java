/** The edges of promises 23, 24, 25 and 42, and that whatever asks alone changes nothing. */
public final class LooksEdgesTest {
    public static void main(String[] args) {
        of();
        ofAtItsEdges();
        hand();
        ofTurn();
        about();
        aboutAtItsEdges();
        nothingChanges();
        againAndAgain();
        calls();
        Due.end();
    }

    private static void of() {
        for (int man : Edge.beyond(0, 1)) {
            for (int what = 0; what <= 4; what++) {
                int it = what;
                Edge.stays("P23 -2 for others: MAN " + man + ", " + it, Made::lived, x -> x.of(man, it), -2);
            }
        }
        for (int what : Edge.beyond(0, 4)) {
            Edge.stays("P23 -2 for others: what " + what, Made::lived, x -> x.of(0, what), -2);
        }
        Edge.stays("P23 -2: a MAN that isn't told, and what isn't there", Made::lived, x -> x.of(2, 5), -2);
        Edge.stays("P23 -2: nobody", Made::fresh, x -> x.of(0, 0), -2);
        Edge.stays("P23 0 PRIDE", Made::lived, x -> x.of(0, 0), 4);
        Edge.stays("P23 1 TURNS it HAS (bits)", Made::lived, x -> x.of(0, 1), 3);
        Edge.stays("P23 2 SUNG (bits)", Made::lived, x -> x.of(0, 2), 2);
        Edge.stays("P23 3 TIED", Made::lived, x -> x.of(0, 3), 2);
        Edge.stays("P23 3 TIED (NONE)", Made::lived, x -> x.of(1, 3), -1);
        Edge.stays("P23 4 FREE (0)", Made::lived, x -> x.of(0, 4), 0);
        Edge.stays("P23 4 FREE (1)", Made::freed, x -> x.of(1, 4), 1);
        Edge.stays("P23 1 of a FREE one too", Made::freed, x -> x.of(1, 1), 5);
    }

    private static void ofAtItsEdges() {
        UnlearnedHand x = Made.turnsAndMen(8, 6);
        Due.is("P23 HAS none", x.of(5, 1), 0);
        for (int turn = 0; turn < 8; turn++) {
            x.teach(5, turn, 1);
            Due.is("P23 HAS one more: RIGHT 1 is above WRONG 0", x.of(5, 1), (2 << turn) - 1);
        }
        x.mislead(5, 7, 1);
        Due.is("P23 HAS one less: RIGHT 1 isn't above WRONG 1", x.of(5, 1), 127);
        Due.is("P23 another HAS none", x.of(4, 1), 0);
        Edge.taken("P23 without TURNS", () -> Made.turnsAndMen(0, 1), y -> y.of(0, 1), 0, y -> y.of(0, 2), 0);
    }

    private static void hand() {
        for (int what = 0; what <= 4; what++) {
            int it = what;
            for (int man : Edge.beyond(0, 1)) {
                Edge.stays("P24 -100 for others: MAN " + man + ", " + it, Made::lived, x -> x.hand(man, 1, it), -100);
            }
            for (int turn : Edge.beyond(0, 2)) {
                Edge.stays("P24 -100 for others: TURN " + turn + ", " + it, Made::lived, x -> x.hand(1, turn, it), -100);
            }
            Edge.stays("P24 -100: nobody, nothing: " + it, Made::fresh, x -> x.hand(0, 0, it), -100);
            Edge.stays("P24 -100: without TURNS: " + it, () -> Made.turnsAndMen(0, 6), x -> x.hand(0, 0, it), -100);
            Edge.stays("P24 -100: without MEN: " + it, () -> Made.turnsAndMen(8, 0), x -> x.hand(0, 0, it), -100);
        }
        for (int what : Edge.beyond(0, 4)) {
            Edge.stays("P24 -100 for others: what " + what, Made::lived, x -> x.hand(0, 0, what), -100);
        }
        UnlearnedHand x = Made.turnsAndMen(8, 6);
        for (int man = 0; man < 6; man += 5) {
            for (int turn = 0; turn < 8; turn += 7) {
                x.teach(man, turn, 50 + man);
                x.mislead(man, turn, 20 + turn);
            }
        }
        for (int man = 0; man < 6; man += 5) {
            for (int turn = 0; turn < 8; turn += 7) {
                Due.is("P24 0 RIGHT of " + man + ", " + turn, x.hand(man, turn, 0), 50 + man - (20 + turn) / 2);
                Due.is("P24 1 WRONG of " + man + ", " + turn, x.hand(man, turn, 1), 20 + turn);
                Due.is("P24 2 BEST of " + man + ", " + turn, x.hand(man, turn, 2), 50 + man);
            }
        }
    }

    private static void ofTurn() {
        for (int turn : Edge.beyond(0, 2)) {
            Edge.stays("P25 NONE for others: WORTH of TURN " + turn, Made::lived, x -> x.ofTurn(turn, 0), -1);
            Edge.stays("P25 NONE for others: LEADS of TURN " + turn, Made::lived, x -> x.ofTurn(turn, 1), -1);
        }
        for (int what : Edge.beyond(0, 1)) {
            Edge.stays("P25 NONE for others: what " + what, Made::lived, x -> x.ofTurn(0, what), -1);
        }
        Edge.stays("P25 NONE: nothing", Made::fresh, x -> x.ofTurn(0, 0), -1);
        Edge.stays("P25 0 WORTH", Made::lived, x -> x.ofTurn(2, 0), 7);
        Edge.stays("P25 1 to which it LEADS (bits)", Made::lived, x -> x.ofTurn(0, 1), 2);
        Edge.stays("P25 1 not those behind these", Made::lived, x -> x.ofTurn(0, 1) & 4, 0);
        Edge.stays("P25 1 not those that LEAD to it", Made::lived, x -> x.ofTurn(2, 1), 0);
    }

    private static void about() {
        for (int what : Edge.beyond(0, 10)) {
            Edge.stays("P42 -2 for others: " + what, Made::lived, x -> x.about(what), -2);
            Edge.stays("P42 -2 for others, of a new object: " + what, Made::fresh, x -> x.about(what), -2);
        }
        int winter = (77 * 281 + 179) % 30293;
        int[] due = {3, 2, 2, 3, winter, 1, 0, 14, 2, 1, 17};
        String[] name = {"TURNS", "MEN", "SMELLS", "DAY", "X", "TEXTS", "THE TEXT", "STEPS", "DONE", "allowed", "bytes of the tape"};
        for (int what = 0; what <= 10; what++) {
            int it = what;
            Edge.stays("P42 " + name[it], Made::lived, x -> x.about(it), due[it]);
        }
    }

    private static void aboutAtItsEdges() {
        Edge.stays("P42 8 TURNS at most", Made::allTurns, x -> x.about(0), 8);
        Edge.stays("P42 6 MEN at most", Made::allMen, x -> x.about(1), 6);
        Edge.stays("P42 6 SMELLS at most", Made::allSmells, x -> x.about(2), 6);
        Edge.stays("P42 DAY 999 at most", Made::lastDay, x -> x.about(3), 999);
        Edge.stays("P42 4 TEXTS at most", Made::allTexts, x -> x.about(5), 4);
        Edge.stays("P42 THE TEXT", Made::allTexts, x -> x.about(6), 1);
        Edge.stays("P42 30 STEPS at most", Made::lastDay, x -> x.about(7), 30);
        Edge.stays("P42 8 DONE at most", Made::allDone, x -> x.about(8), 8);
        Edge.stays("P42 300 bytes at most", () -> Made.tapeOf(300), x -> x.about(10), 300);
    }

    /** What follows in the document's third part, and what asks alone in the promises. */
    private static void nothingChanges() {
        Edge.stays("P26 FORETOLD changes nothing", Made::lived, x -> x.foretold(60, 0), 2);
        Edge.stays("P26 FORETOLD changes nothing, of another", Made::lived, x -> x.foretold(1, 1), 5);
        Edge.stays("P27 FREE, foretold, changes nothing", Made::lived, x -> x.free(60, 1), 27);
        Edge.stays("P28 LASTS changes nothing", Made::lived, x -> x.lasts(1, 2), 19);
        Edge.stays("P29 WRONGS changes nothing", Made::lived, x -> x.wrongs(0, 4, 60, 0, -1), 2);
        Edge.stays("P29 WRONGS changes nothing: a NIGHT", Made::lived, x -> x.wrongs(0, 4, 60, 0, 3), 1);
        Edge.stays("P31 SETS changes nothing", Made::lived, x -> x.sets(false, -1), 1);
        Edge.stays("P31 SETS changes nothing: a shammer's", Made::lived, x -> x.sets(true, 1), 3);
        Edge.stays("P32 SHAMMED changes nothing", Made::lived, x -> x.shammed(0, 5, 5, false), 25);
        Edge.stays("P33 HALVES changes nothing", Made::lived, x -> x.halves(0, 1, 0), 2);
        Edge.stays("P34 COMES BACK changes nothing", Made::lived, x -> x.back(3), 7);
        Edge.stays("P35 FEW SMELLS changes nothing", Made::lived, x -> x.fewSmells(7), 2);
        Edge.stays("P36 A TRIAL's order changes nothing", Made::lived, x -> x.trial(0, 7, 2), 2);
        Edge.stays("P37 TOLD changes nothing", Made::lived, x -> x.told(7, 2), 2);
        Edge.stays("P38 SPIES changes nothing", Made::lived, x -> x.spies(6), 3);
        Edge.stays("P39 SOLD changes nothing", Made::lived, x -> x.sold(2), 15);
    }

    private static void againAndAgain() {
        UnlearnedHand x = Made.lived();
        for (int i = 0; i < 3; i++) {
            Due.is("P26 the same once more", x.foretold(60, 0), 2);
            Due.is("P27 the same once more", x.free(60, 1), 27);
            Due.is("P28 the same once more", x.lasts(1, 2), 19);
            Due.is("P29 the same once more", x.wrongs(0, 4, 60, 0, 3), 1);
            Due.is("P36 the same once more", x.trial(0, 7, 2), 2);
            Due.is("P36 the same of fewer", x.trial(0, 1, 0), 0);
            Due.is("P37 the same once more", x.told(7, 2), 2);
            Due.is("P37 the same of fewer", x.told(4, 0), 2);
            Due.is("P38 the same once more", x.spies(6), 3);
        }
    }

    /** An object answers for 512 calls; the last of them as well as the first. */
    private static void calls() {
        UnlearnedHand x = new UnlearnedHand();
        x.turn(1);
        x.man(1);
        for (int i = 0; i < 254; i++) {
            Due.is("P7 the call " + (2 * i + 3), x.teach(0, 0, 1), 1);
            Due.is("P22 the call " + (2 * i + 4), x.undo(), 0);
        }
        Due.is("P7 the call 511", x.teach(0, 0, 99), 99);
        Due.is("P24 the call 512", x.hand(0, 0, 0), 99);
    }
}
