import java.util.ArrayList;
import java.util.List;

/** Looks at one sentence of the document that names a boundary; each look has objects of its own. */
final class Edge {
    /** Makes the same object anew each time. */
    interface Maker {
        UnlearnedHand make();
    }

    interface Call {
        long on(UnlearnedHand x);
    }

    interface Ask {
        boolean on(UnlearnedHand x);
    }

    private Edge() {
    }

    /** A call that is refused, or that asks alone: its answer, and all stays as it was. */
    static void stays(String sentence, Maker maker, Call call, long due) {
        UnlearnedHand x = maker.make();
        UnlearnedHand y = maker.make();
        Due.is(sentence, call.on(x), due);
        sameAll(sentence + ", all stays", x, y);
    }

    /** As stays, of a call that answers false. */
    static void denied(String sentence, Maker maker, Ask ask) {
        stays(sentence, maker, x -> ask.on(x) ? 1 : 0, 0);
    }

    /** A call that is taken: its answer, and what is seen then. */
    static void taken(String sentence, Maker maker, Call call, long due, Call look, long seen) {
        UnlearnedHand x = maker.make();
        Due.is(sentence, call.on(x), due);
        Due.is(sentence + ", seen then", look.on(x), seen);
    }

    /** As taken, of a call that answers true. */
    static void granted(String sentence, Maker maker, Ask ask, Call look, long seen) {
        taken(sentence, maker, x -> ask.on(x) ? 1 : 0, 1, look, seen);
    }

    /** A text on a new object: its fault and its place (fault 0: none). */
    static void fault(String sentence, String text, int fault, int place) {
        UnlearnedHand x = new UnlearnedHand();
        Due.is(sentence + ": text() of " + text, Due.text(x, text), fault == 0 ? 0 : -1);
        Due.is(sentence + ": fault(0) of " + text, x.fault(0), fault);
        Due.is(sentence + ": fault(1) of " + text, x.fault(1), place);
        Due.is(sentence + ": the tape behind " + text, x.about(10), 0);
        Due.is(sentence + ": texts behind " + text, x.about(5), fault == 0 ? 1 : 0);
    }

    /**
     * Numbers too small and too large for a range: next to it, far away, and such that would be in it if
     * their lowest 5, 8 or 16 bits counted alone.
     */
    static List<Integer> beyond(int least, int greatest) {
        int[] all = {least - 1, greatest + 1, least - 2, greatest + 2, greatest + 32, least - 32, greatest + 256, least - 256,
            greatest + 65536, least - 65536, Integer.MIN_VALUE, Integer.MAX_VALUE, Integer.MIN_VALUE + greatest};
        List<Integer> found = new ArrayList<>();
        for (int number : all) {
            if ((number < least || number > greatest) && !found.contains(number)) {
                found.add(number);
            }
        }
        return found;
    }

    /** Two objects that must be alike in all that is promised. */
    static void sameAll(String sentence, UnlearnedHand x, UnlearnedHand y) {
        sameLooks(sentence, x, y);
        // What can't be asked shows in what comes of it: how the tape is read, the steps and the image.
        Due.is(sentence + ": the tape is read", x.text(), y.text());
        sameFault(sentence + ": the tape is read", x, y);
        Due.is(sentence + ": the latest text rules", x.by(x.about(5) - 1), y.by(y.about(5) - 1));
        Due.is(sentence + ": undo()", x.undo(), y.undo());
        sameLooks(sentence + ": one step back", x, y);
        Due.is(sentence + ": again()", x.again(), y.again());
        sameLooks(sentence + ": at the image", x, y);
    }

    /** Two objects must answer alike all that can be asked without changing anything. */
    static void sameLooks(String sentence, UnlearnedHand x, UnlearnedHand y) {
        sameFault(sentence, x, y);
        sameTold(sentence, x, y);
        sameMen(sentence, x, y);
    }

    private static void sameFault(String sentence, UnlearnedHand x, UnlearnedHand y) {
        Due.is(sentence + ": fault(0)", x.fault(0), y.fault(0));
        Due.is(sentence + ": fault(1)", x.fault(1), y.fault(1));
    }

    static void sameTold(String sentence, UnlearnedHand x, UnlearnedHand y) {
        for (int what = 0; what <= 10; what++) {
            Due.is(sentence + ": about(" + what + ")", x.about(what), y.about(what));
        }
        int turns = y.about(0);
        int smells = y.about(2);
        for (int turn = 0; turn < turns; turn++) {
            Due.is(sentence + ": ofTurn(" + turn + ", 0)", x.ofTurn(turn, 0), y.ofTurn(turn, 0));
            Due.is(sentence + ": ofTurn(" + turn + ", 1)", x.ofTurn(turn, 1), y.ofTurn(turn, 1));
        }
        for (int smell = 0; smell < smells; smell++) {
            Due.is(sentence + ": back(" + (1 << smell) + ")", x.back(1 << smell), y.back(1 << smell));
        }
        for (int i = -1; i < 2; i++) {
            Due.is(sentence + ": sets(false, " + i + ")", x.sets(false, i), y.sets(false, i));
            Due.is(sentence + ": sets(true, " + i + ")", x.sets(true, i), y.sets(true, i));
        }
    }

    static void sameMen(String sentence, UnlearnedHand x, UnlearnedHand y) {
        int men = y.about(1);
        int turns = y.about(0);
        // An object answers for 512 calls alone, so that of many hands what laws say isn't asked.
        int most = men * turns > 24 ? 2 : 4;
        for (int man = 0; man < men; man++) {
            for (int what = 0; what <= 4; what++) {
                Due.is(sentence + ": of(" + man + ", " + what + ")", x.of(man, what), y.of(man, what));
            }
            for (int turn = 0; turn < turns; turn++) {
                for (int what = 0; what <= most; what++) {
                    Due.is(sentence + ": hand(" + man + ", " + turn + ", " + what + ")", x.hand(man, turn, what), y.hand(man, turn, what));
                }
            }
        }
    }
}
