/** Promises 40 and 41: the image, and going back to it. */
public final class ImageTest {
    public static void main(String[] args) {
        all();
        texts();
        steps();
        Due.end();
    }

    private static UnlearnedHand made() {
        UnlearnedHand x = new UnlearnedHand();
        x.turn(3);
        x.turn(5);
        x.leads(0, 1);
        x.man(4);
        x.smell(1);
        x.allow(1);
        x.teach(0, 0, 40);
        x.mislead(0, 1, 7);
        x.sing(0, 1, true);
        x.tie(0, 1);
        x.done(0, true);
        x.winters(2, 1);
        x.night(2);
        return x;
    }

    private static void same(UnlearnedHand x, UnlearnedHand y) {
        for (int what = 0; what < 10; what++) {
            Due.is("P41 about(" + what + ")", x.about(what), y.about(what));
        }
        for (int turn = 0; turn < 3; turn++) {
            for (int what = 0; what < 5; what++) {
                Due.is("P41 hand(0, " + turn + ", " + what + ")", x.hand(0, turn, what), y.hand(0, turn, what));
                Due.is("P41 of(0, " + what + ")", x.of(0, what), y.of(0, what));
                Due.is("P41 ofTurn(" + turn + ", " + what + ")", x.ofTurn(turn, what), y.ofTurn(turn, what));
            }
        }
        Due.is("P41 smells", x.back(1), y.back(1));
        Due.is("P41 done", x.sets(false, -1), y.sets(false, -1));
    }

    private static void all() {
        UnlearnedHand x = made();
        Due.is("P40 image() is the day", x.image(), 3);
        x.turn(9);
        x.leads(1, 0);
        x.man(8);
        x.smell(2);
        x.allow(8);
        x.teach(0, 0, 9);
        x.mislead(0, 0, 99);
        x.sing(0, 1, false);
        x.tie(0, -1);
        x.done(1, false);
        x.winters(77, 30);
        x.night(60);
        x.tried(0);
        Due.is("P41 again() is the day", x.again(), 3);
        same(x, made());
        x.turn(9);
        x.done(-1, true);
        x.night(5);
        Due.is("P41 the image stays", x.again(), 3);
        same(x, made());
        Due.is("a turn told anew leads to none", x.turn(4), 2);
        Due.is("a turn told anew leads to none", x.ofTurn(2, 1), 0);
        x.man(7);
        Due.is("a man told anew has nothing", x.hand(1, 0, 0) + x.hand(1, 0, 2), 0);
    }

    private static void texts() {
        UnlearnedHand x = made();
        Due.text(x, "fades 2;");
        x.by(0);
        x.image();
        Due.text(x, "fades 3;");
        x.by(1);
        Due.text(x, "fades ?");
        Due.feed(x, "drops 5;");
        x.again();
        Due.is("P41 the texts behind it are gone", x.about(5), 1);
        Due.is("P41 the text", x.about(6), 0);
        Due.is("P41 it rules", x.hand(0, 0, 3), 2);
        Due.is("P41 the tape stays", x.about(10), 8);
        Due.is("P41 the latest fault stays", x.fault(0), 1);
        Due.is("P41 its place stays", x.fault(1), 6);
        Due.is("P41 by a text that is gone", x.by(1), false);
        Due.is("the tape is read", x.text(), 1);
        x.by(1);
        Due.is("and is another text", x.hand(0, 0, 4), 5);
        Due.is("and is another text", x.hand(0, 0, 3), 1);
        x.again();
        Due.is("P41 the first text is as it was", x.hand(0, 0, 3), 2);
    }

    private static void steps() {
        UnlearnedHand x = made();
        x.image();
        int steps = x.about(7);
        for (int i = 0; i < 40; i++) {
            x.teach(0, 0, 1);
        }
        x.again();
        Due.is("P41 steps as well", x.about(7), steps);
        Due.is("P41 they are taken back as there", x.undo(), steps - 1);
        Due.is("P41 the day", x.about(3), 2);
        for (int i = steps - 2; i >= 0; i--) {
            Due.is("P41 undo", x.undo(), i);
        }
        Due.is("P41 all is taken back", x.hand(0, 0, 0) + x.about(3), 0);
        Due.is("P41 none", x.undo(), -1);
        x.again();
        Due.is("P41 steps again", x.about(7), steps);
        UnlearnedHand y = made();
        y.undo();
        y.image();
        y.undo();
        y.again();
        Due.is("P41 steps that were taken back ahead of it are gone", y.about(7), steps - 1);
    }
}
