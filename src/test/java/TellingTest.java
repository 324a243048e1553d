/** Promises 1 to 6, 23, 25 and 42: a new object, and what is told. */
public final class TellingTest {
    public static void main(String[] args) {
        aNewObject();
        turns();
        leads();
        men();
        smells();
        allowed();
        Due.end();
    }

    private static void aNewObject() {
        UnlearnedHand x = new UnlearnedHand();
        int[] due = {0, 0, 0, 0, 73, 0, -1, 0, 0, 0, 0};
        for (int what = 0; what < due.length; what++) {
            Due.is("P1 P42 about(" + what + ")", x.about(what), due[what]);
        }
        Due.is("P42 about(11)", x.about(11), -2);
        Due.is("P42 about(-1)", x.about(-1), -2);
        x.turn(5);
        x.man(1);
        Due.is("P1 again() to the first image", x.again(), 0);
        Due.is("P1 nobody", x.about(1), 0);
        Due.is("P1 no turns", x.about(0), 0);
        Due.is("NONE", UnlearnedHand.NONE, -1);
    }

    private static void turns() {
        UnlearnedHand x = new UnlearnedHand();
        Due.is("P2 turn(0)", x.turn(0), -1);
        Due.is("P2 turn(100)", x.turn(100), -1);
        Due.is("P2 turn(-7)", x.turn(-7), -1);
        for (int i = 0; i < 8; i++) {
            Due.is("P2 the next turn", x.turn(i == 0 ? 1 : 92 + i), i);
        }
        Due.is("P2 the 9th turn", x.turn(5), -1);
        Due.is("P2 about(0)", x.about(0), 8);
        Due.is("P25 worth of 0", x.ofTurn(0, 0), 1);
        Due.is("P25 worth of 7", x.ofTurn(7, 0), 99);
        Due.is("P25 of 8", x.ofTurn(8, 0), -1);
        Due.is("P25 of -1", x.ofTurn(-1, 0), -1);
        Due.is("P25 what 2", x.ofTurn(0, 2), -1);
        Due.is("P25 what -1", x.ofTurn(0, -1), -1);
    }

    private static void leads() {
        UnlearnedHand x = new UnlearnedHand();
        x.turn(1);
        x.turn(2);
        x.turn(3);
        Due.is("P25 leads at first", x.ofTurn(0, 1), 0);
        Due.is("P3 leads(0, 2)", x.leads(0, 2), true);
        Due.is("P3 leads(0, 2) again", x.leads(0, 2), false);
        Due.is("P3 leads(2, 0)", x.leads(2, 0), true);
        Due.is("P3 leads(0, 1)", x.leads(0, 1), true);
        Due.is("P3 leads(1, 1)", x.leads(1, 1), false);
        Due.is("P3 leads(1, 3)", x.leads(1, 3), false);
        Due.is("P3 leads(3, 1)", x.leads(3, 1), false);
        Due.is("P3 leads(-1, 1)", x.leads(-1, 1), false);
        Due.is("P25 leads of 0", x.ofTurn(0, 1), 6);
        Due.is("P25 leads of 2", x.ofTurn(2, 1), 1);
        Due.is("P25 leads of 1", x.ofTurn(1, 1), 0);
    }

    private static void men() {
        UnlearnedHand x = new UnlearnedHand();
        Due.is("P4 man(10)", x.man(10), -1);
        Due.is("P4 man(-1)", x.man(-1), -1);
        for (int i = 0; i < 6; i++) {
            Due.is("P4 the next man", x.man(i == 5 ? 9 : i), i);
        }
        Due.is("P4 the 7th man", x.man(3), -1);
        Due.is("P23 pride of 5", x.of(5, 0), 9);
        Due.is("P23 pride of 0", x.of(0, 0), 0);
        Due.is("P23 turns", x.of(0, 1), 0);
        Due.is("P23 sung", x.of(0, 2), 0);
        Due.is("P23 tied", x.of(0, 3), -1);
        Due.is("P23 free", x.of(0, 4), 0);
        Due.is("P23 what 5", x.of(0, 5), -2);
        Due.is("P23 what -1", x.of(0, -1), -2);
        Due.is("P23 man 6", x.of(6, 0), -2);
        Due.is("P23 man -1", x.of(-1, 3), -2);
    }

    private static void smells() {
        UnlearnedHand x = new UnlearnedHand();
        Due.is("P5 smell without turns", x.smell(1), -1);
        x.turn(1);
        x.turn(2);
        Due.is("P5 smell(0)", x.smell(0), -1);
        Due.is("P5 smell(4)", x.smell(4), -1);
        Due.is("P5 smell(5)", x.smell(5), -1);
        Due.is("P5 smell(-1)", x.smell(-1), -1);
        Due.is("P5 smell(the sign's bit)", x.smell(1 << 31 | 1), -1);
        for (int i = 0; i < 6; i++) {
            Due.is("P5 the next smell", x.smell(1 + i % 3), i);
        }
        Due.is("P5 the 7th smell", x.smell(1), -1);
        Due.is("P42 about(2)", x.about(2), 6);
    }

    private static void allowed() {
        UnlearnedHand x = new UnlearnedHand();
        Due.is("P6 allow(8)", x.allow(8), true);
        Due.is("P6 allow(9)", x.allow(9), false);
        Due.is("P6 allow(-1)", x.allow(-1), false);
        Due.is("P42 about(9)", x.about(9), 8);
        Due.is("P6 allow(0)", x.allow(0), true);
        Due.is("P6 allow(0) again", x.allow(0), true);
        Due.is("P42 about(9)", x.about(9), 0);
    }
}
