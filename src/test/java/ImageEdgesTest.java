/** The edges of promises 40 and 41: the image, and going back to it. */
public final class ImageEdgesTest {
    public static void main(String[] args) {
        theDay();
        nothingElse();
        eachThing();
        allOfEach();
        stepsAsWell();
        thirtySteps();
        butTheTape();
        butTheFault();
        texts();
        fourTexts();
        itStays();
        aLaterOne();
        toldAnew();
        Due.end();
    }

    private static void theDay() {
        Edge.taken("P40 DAY: 0 of a new object", Made::fresh, UnlearnedHand::image, 0, x -> x.about(3), 0);
        Edge.taken("P40 DAY", Made::lived, UnlearnedHand::image, 3, x -> x.about(3), 3);
        Edge.taken("P40 DAY: 999", Made::lastDay, UnlearnedHand::image, 999, UnlearnedHand::again, 999);
        Edge.taken("P41 DAY: 0 of a new object", Made::fresh, UnlearnedHand::again, 0, x -> x.about(3), 0);
        Edge.taken("P41 DAY of THE IMAGE, not as it was", Made::lived, UnlearnedHand::again, 0, x -> x.about(3), 0);
        Edge.taken("P41 to a later DAY", () -> back(), UnlearnedHand::again, 3, x -> x.about(3), 3);
    }

    /** The image is of day 3, and two nights have been taken back since. */
    private static UnlearnedHand back() {
        UnlearnedHand x = Made.lived();
        x.image();
        for (int i = 0; i < 3; i++) {
            x.undo();
        }
        return x;
    }

    private static void nothingElse() {
        UnlearnedHand x = Made.lived();
        UnlearnedHand y = Made.lived();
        x.image();
        Edge.sameLooks("P40 THE IMAGE changes nothing else", x, y);
        Due.is("P40 no STEP", x.undo(), y.undo());
        UnlearnedHand z = Made.lived();
        z.image();
        z.again();
        Edge.sameLooks("P41 at once: all is as it was", z, Made.lived());
        Due.is("P41 no STEP", z.undo(), Made.lived().undo());
    }

    /** What one call has changed is as at the image again. */
    private static void gone(String sentence, Edge.Call call) {
        UnlearnedHand x = Made.lived();
        UnlearnedHand y = Made.lived();
        x.image();
        y.image();
        call.on(x);
        Due.is("P41 " + sentence + ": DAY", x.again(), 3);
        Edge.sameAll("P41 as at THE IMAGE: " + sentence, x, y);
    }

    private static long bit(boolean is) {
        return is ? 1 : 0;
    }

    private static void eachThing() {
        gone("a TURN", x -> x.turn(50));
        gone("LEADS", x -> bit(x.leads(2, 0)));
        gone("a MAN", x -> x.man(9));
        gone("a SMELL", x -> x.smell(1));
        gone("how many are allowed", x -> bit(x.allow(8)));
        gone("TAUGHT", x -> x.teach(0, 0, 99));
        gone("MISLED", x -> x.mislead(0, 0, 99));
        gone("DRUNK", x -> bit(x.drink(0)));
        gone("SUNG", x -> bit(x.sing(0, 0, true)));
        gone("not SUNG any more", x -> bit(x.sing(0, 1, false)));
        gone("TIED", x -> bit(x.tie(1, 0)));
        gone("TIED at none", x -> bit(x.tie(0, -1)));
        gone("SMELT", x -> x.smelt(1, 1));
        gone("TRIED, and not FREE", x -> x.tried(0));
        gone("TRIED, and FREE", x -> bit(x.allow(8)) + x.tried(0));
        gone("NIGHTS", x -> x.night(60));
        gone("WINTERS", x -> x.winters(1234, 30));
        gone("THE TEXT", x -> bit(x.by(-1)));
        gone("DONE", x -> x.done(2, true));
        gone("DONE none any more", x -> x.done(-1, true));
        gone("DONE otherwise", x -> x.done(-1, true) + x.done(0, false) + x.done(1, true));
        gone("DONE of other TURNS", x -> x.done(-1, true) + x.done(2, true) + x.done(2, false));
        gone("STEPS taken back", x -> x.undo() + x.undo());
        gone("PLAYED by a TEXT", x -> x.played(0));
    }

    private static void allOfEach() {
        UnlearnedHand x = Made.turnsAndMen(8, 6);
        UnlearnedHand y = Made.turnsAndMen(8, 6);
        x.image();
        for (int turn = 0; turn < 8; turn++) {
            x.leads(turn, (turn + 1) % 8);
            x.done(turn, true);
            x.smell(1 << turn);
            for (int man = 0; man < 6; man++) {
                x.teach(man, turn, 1 + turn + man);
            }
        }
        for (int man = 0; man < 6; man++) {
            x.sing(man, 7, true);
            x.mislead(man, 7, 9);
            x.tie(man, man);
        }
        x.again();
        Edge.sameTold("P41 all TURNS, SMELLS, DONE are as at THE IMAGE", x, y);
        Edge.sameMen("P41 all MEN are as at THE IMAGE", x, y);
    }

    private static void stepsAsWell() {
        UnlearnedHand x = Made.lived();
        UnlearnedHand y = Made.lived();
        x.image();
        for (int i = 0; i < 20; i++) {
            x.teach(1, 0, 1);
        }
        x.again();
        int steps = y.about(7);
        Due.is("P41 STEPS as well", x.about(7), steps);
        for (int i = steps - 1; i >= 0; i--) {
            Due.is("P41 STEPS as well: undo()", x.undo(), i);
            y.undo();
            Due.is("P41 STEPS as well: RIGHT", x.hand(1, 0, 0), y.hand(1, 0, 0));
            Due.is("P41 STEPS as well: DAY", x.about(3), y.about(3));
        }
        Due.is("P41 no more STEPS", x.undo(), -1);
        x.again();
        Due.is("P41 STEPS taken back are there again", x.about(7), steps);
        Due.is("P41 again", x.hand(1, 0, 0), Made.lived().hand(1, 0, 0));
    }

    private static void thirtySteps() {
        UnlearnedHand x = Made.plain();
        for (int i = 0; i < 40; i++) {
            x.teach(0, 0, 1);
        }
        x.image();
        for (int i = 0; i < 47; i++) {
            x.teach(0, 0, 2);
        }
        x.again();
        Due.is("P41 30 STEPS", x.about(7), 30);
        for (int i = 29; i >= 0; i--) {
            Due.is("P41 30 STEPS", x.undo(), i);
            Due.is("P41 30 STEPS: RIGHT", x.hand(0, 0, 0), 10 + i);
        }
        Due.is("P41 30 STEPS, and no more", x.undo(), -1);
        UnlearnedHand y = Made.plain();
        y.teach(0, 0, 5);
        y.undo();
        y.image();
        y.teach(0, 0, 7);
        y.again();
        Due.is("P41 no STEPS at THE IMAGE: none are there", y.undo(), -1);
        Due.is("P41 no STEPS at THE IMAGE: all is as at it", y.hand(0, 0, 2), 0);
    }

    private static void butTheTape() {
        UnlearnedHand x = Made.plain();
        Due.feed(x, "fades 4;");
        x.image();
        x.end(6);
        Due.feed(x, "57;");
        x.again();
        Due.is("P41 but the tape: as it is", x.about(10), 9);
        Due.is("P41 but the tape: it is read", x.text(), 0);
        x.by(0);
        Due.is("P41 but the tape: 57, not 4", x.hand(0, 0, 3), 57);
        x.again();
        Due.is("P41 but the tape: it doesn't come back", x.about(10), 0);
        UnlearnedHand y = Made.plain();
        y.image();
        Due.feed(y, " ".repeat(300));
        y.again();
        Due.is("P41 but the tape: 300", y.about(10), 300);
    }

    private static void butTheFault() {
        UnlearnedHand x = Made.plain();
        x.image();
        Due.text(x, "fades 10000;");
        x.again();
        Due.is("P41 but the latest FAULT: as it is", x.fault(0), 2);
        Due.is("P41 but the latest FAULT: its place", x.fault(1), 6);
        x.image();
        Due.text(x, "fades 1;");
        x.again();
        Due.is("P41 but the latest FAULT: none, as it is", x.fault(0), 0);
        Due.is("P41 but the latest FAULT: no place, as it is", x.fault(1), -1);
        UnlearnedHand y = new UnlearnedHand();
        Due.text(y, "");
        y.again();
        Due.is("P41 but the latest FAULT: a text was read", y.fault(0), 0);
    }

    private static void texts() {
        UnlearnedHand x = Made.plain();
        Due.text(x, "fades 2;");
        x.image();
        Due.text(x, "fades 3;");
        x.by(1);
        x.again();
        Due.is("P41 TEXTS told behind it are gone", x.about(5), 1);
        Due.is("P41 TEXTS told behind it are gone: false", x.by(1), false);
        Due.is("P41 TEXTS told behind it are gone: -2", x.played(1), -2);
        Due.is("P41 THE TEXT as at it: none", x.about(6), -1);
        Due.is("P41 fades without", x.hand(0, 0, 3), 1);
        Due.is("P41 TEXTS told ahead of it are there", x.by(0), true);
        Due.is("P41 with their laws", x.hand(0, 0, 3), 2);
        Due.is("P41 another TEXT has that number", Due.text(x, "drops 5;"), 1);
        x.by(1);
        Due.is("P41 and no law of the one that is gone", x.hand(0, 0, 3), 1);
        Due.is("P41 but its own", x.hand(0, 0, 4), 5);
        Due.is("P41 a FAULT behind going back", Due.text(x, "fades 9; ?"), -1);
        Due.is("P41 leaves the others", x.hand(0, 0, 4), 5);
    }

    private static void fourTexts() {
        UnlearnedHand x = Made.plain();
        Due.text(x, "fades 20;");
        Due.text(x, "fades 21;");
        x.by(1);
        x.image();
        for (int round = 0; round < 3; round++) {
            Due.is("P41 there is room for two", Due.text(x, "fades " + (30 + round) + ";"), 2);
            Due.is("P41 there is room for two", Due.text(x, "fades " + (40 + round) + ";"), 3);
            Due.is("P18 then there are 4", Due.text(x, "fades 50;"), -1);
            x.end(0);
            x.by(3);
            Due.is("P20 the last rules", x.hand(0, 0, 3), 40 + round);
            x.again();
            Due.is("P41 two are gone", x.about(5), 2);
            Due.is("P41 THE TEXT as at it", x.about(6), 1);
            Due.is("P41 with its law", x.hand(0, 0, 3), 21);
        }
    }

    private static void itStays() {
        UnlearnedHand x = Made.lived();
        UnlearnedHand y = Made.lived();
        x.image();
        y.image();
        for (int round = 0; round < 3; round++) {
            x.night(5 + round);
            x.man(round);
            x.allow(round);
            x.done(2, round == 1);
            Due.is("P41 (it stays): DAY", x.again(), 3);
        }
        Edge.sameAll("P41 (it stays)", x, y);
        Due.is("P41 again and again", x.again(), 3);
        Due.is("P41 again and again", x.again(), 3);
    }

    private static void aLaterOne() {
        UnlearnedHand x = Made.lived();
        x.image();
        x.night(2);
        Due.is("P40 THE IMAGE is as all is now", x.image(), 5);
        x.night(3);
        Due.is("P41 the latest IMAGE alone", x.again(), 5);
        Due.is("P41 the latest IMAGE alone: RIGHT", x.hand(0, 0, 0), Made.lived().hand(0, 0, 0) - 4);
        x.undo();
        x.undo();
        Due.is("P22 ahead of THE IMAGE", x.about(3), 3);
        Due.is("P41 and again", x.again(), 5);
    }

    private static void toldAnew() {
        UnlearnedHand x = Made.plain();
        x.image();
        int turn = x.turn(50);
        x.leads(turn, 0);
        x.leads(0, turn);
        int man = x.man(9);
        x.teach(man, turn, 40);
        x.teach(0, turn, 40);
        x.mislead(man, turn, 9);
        x.sing(man, turn, true);
        x.tie(man, turn);
        x.smell(1 << turn);
        x.again();
        Due.is("P41 no such TURN", x.ofTurn(turn, 0), -1);
        Due.is("P41 no such MAN", x.of(man, 0), -2);
        Due.is("P41 LEADS to it are gone", x.ofTurn(0, 1), 2);
        Due.is("P41 a TURN told anew", x.turn(7), turn);
        Due.is("P41 its WORTH", x.ofTurn(turn, 0), 7);
        Due.is("P41 its LEADS: none", x.ofTurn(turn, 1), 0);
        Due.is("P41 a MAN told anew", x.man(1), man);
        Due.is("P41 his PRIDE", x.of(man, 0), 1);
        Due.is("P41 a SMELL told anew", x.smell(1), 2);
        Due.is("P41 what it brings", x.back(4), 7);
        for (int what = 0; what < 3; what++) {
            Due.is("P41 nothing of what was there: " + what, x.hand(man, turn, what) + x.hand(0, turn, what), 0);
        }
        Due.is("P41 not SUNG", x.of(man, 2), 0);
        Due.is("P41 not TIED", x.of(man, 3), -1);
    }
}
