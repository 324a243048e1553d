/** Promises 26 to 29: what comes, and which wrongs to teach. */
public final class ForesightTest {
    public static void main(String[] args) {
        foretold();
        free();
        lasts();
        beyondTheLastDay();
        dropsByTheRightAhead();
        wrongs();
        wrongsInOrder();
        wrongsOfOthers();
        nothingChanges();
        Due.end();
    }

    private static UnlearnedHand made() {
        UnlearnedHand x = new UnlearnedHand();
        x.turn(3);
        x.turn(5);
        x.turn(7);
        x.man(4);
        x.man(0);
        return x;
    }

    private static void foretold() {
        UnlearnedHand x = made();
        x.teach(0, 0, 5);
        x.teach(0, 1, 50);
        x.teach(0, 2, 61);
        Due.is("P26 foretold(1)", x.foretold(1, 0), 7);
        Due.is("P26 foretold(4)", x.foretold(4, 0), 7);
        Due.is("P26 foretold(5)", x.foretold(5, 0), 6);
        Due.is("P26 foretold(60)", x.foretold(60, 0), 4);
        x.allow(2);
        Due.is("P26 free at 30, and nothing fades from there", x.foretold(60, 0), 6);
        Due.is("P26 n 0", x.foretold(0, 0), -1);
        Due.is("P26 n 61", x.foretold(61, 0), -1);
        Due.is("P26 man 2", x.foretold(3, 2), -1);
        Due.is("P26 man -1", x.foretold(3, -1), -1);
        x.tried(1);
        Due.is("P26 a free one", x.foretold(3, 1), 0);
        Due.text(x, "drops 3;");
        x.by(0);
        x.mislead(0, 0, 30);
        Due.is("P26 the wrong is there", x.foretold(1, 0), 6);
        x.sing(0, 0, true);
        x.teach(0, 0, 9);
        Due.is("P26 the wrong drops, the sung stays", x.foretold(7, 0), 6);
        Due.is("P26 and it is there again", x.foretold(8, 0), 7);
    }

    private static void free() {
        UnlearnedHand x = made();
        x.teach(0, 0, 45);
        Due.is("P27 not in 59", x.free(59, 0), -1);
        Due.is("P27 in 60", x.free(60, 0), 60);
        Due.is("P27 the other in 30", x.free(30, 1), 30);
        Due.is("P27 not in 29", x.free(29, 1), -1);
        x.night(29);
        Due.is("P27 in 1", x.free(1, 1), 1);
        Due.is("P27 in 31", x.free(60, 0), 31);
        x.tried(1);
        Due.is("P27 it is", x.free(1, 1), 0);
        Due.is("P27 n 0, though it is", x.free(0, 1), -1);
        Due.is("P27 n 61, though it is", x.free(61, 1), -1);
        Due.is("P27 man 2", x.free(5, 2), -1);
        Due.is("P27 man -1", x.free(5, -1), -1);
    }

    private static void lasts() {
        UnlearnedHand x = made();
        x.teach(0, 0, 5);
        x.teach(0, 1, 99);
        x.mislead(0, 1, 1);
        Due.is("P28 till right isn't above wrong", x.lasts(0, 0), 5);
        Due.is("P28 98 nights", x.lasts(0, 1), 98);
        Due.is("P28 it hasn't it", x.lasts(0, 2), -1);
        Due.is("P28 man 2", x.lasts(2, 0), -1);
        Due.is("P28 turn 3", x.lasts(0, 3), -1);
        Due.is("P28 turn -1", x.lasts(0, -1), -1);
        x.allow(1);
        Due.is("P28 it becomes free with it", x.lasts(0, 1), -1);
        Due.is("P28 the other goes ahead of that", x.lasts(0, 0), 5);
        x.tried(0);
        x.allow(2);
        x.tried(0);
        Due.is("P28 it is free with it", x.lasts(0, 0), -1);
        UnlearnedHand y = made();
        Due.text(y, "fades (day+2)/2-(day+1)/2;");
        Due.text(y, "fades 0;");
        y.teach(0, 0, 99);
        y.by(0);
        Due.is("P28 half as fast: in 197, the day being 0", y.lasts(0, 0), 197);
        y.teach(0, 1, 30);
        y.allow(1);
        Due.is("P28 free with one at 60", y.lasts(0, 0), -1);
        Due.is("P28 and without the other just then", y.lasts(0, 1), 59);
        y.by(1);
        y.allow(0);
        Due.is("P28 for ever", y.lasts(0, 0), -1);
        UnlearnedHand z = made();
        z.teach(0, 0, 30);
        Due.is("P28 not any more as it becomes free", z.lasts(0, 0), 30);
        Due.text(z, "has turn=0 and right>0; fades (day+1)/200*99;");
        z.by(0);
        Due.is("P28 in 200", z.lasts(0, 0), 200);
        Due.text(z, "has turn=0 and right>0; fades (day+1)/201*99;");
        z.by(1);
        Due.is("P28 not in 201", z.lasts(0, 0), -1);
    }

    private static void beyondTheLastDay() {
        UnlearnedHand x = made();
        x.teach(0, 0, 50);
        x.sing(0, 0, true);
        for (int i = 0; i < 16; i++) {
            x.night(60);
        }
        x.night(39);
        x.sing(0, 0, false);
        Due.is("day", x.about(3), 999);
        Due.is("P26 beyond 999", x.foretold(50, 0), 0);
        Due.is("P26 beyond 999", x.foretold(49, 0), 1);
        Due.is("P28 beyond 999", x.lasts(0, 0), 50);
        Due.is("P27 beyond 999: the trial at 1050", x.free(60, 0), 51);
        Due.is("P29 beyond 999", x.wrongs(0, 4, 99, 0, -1), 1);
        Due.text(x, "fades day/1010*99;");
        x.by(0);
        Due.is("P26 the day grows on", x.foretold(11, 0), 1);
        Due.is("P26 the day grows on", x.foretold(12, 0), 0);
    }

    /** Wrongs drop by the right ahead of the night, in days to come as well. */
    private static void dropsByTheRightAhead() {
        UnlearnedHand x = made();
        Due.text(x, "drops right; has wrong>24;");
        x.by(0);
        x.night(29);
        x.mislead(0, 0, 25);
        x.teach(0, 0, 1);
        Due.is("P26 has it now", x.of(0, 1), 1);
        Due.is("P26 not behind the night", x.foretold(1, 0), 0);
        Due.is("P27 so it is free by the night", x.free(1, 0), 1);
        Due.is("P28 one night", x.lasts(0, 0), 1);
        Due.is("P29 no lesson", x.wrongs(0, 1, 1, 0, -1), 0);
        Due.is("P29 no lesson", x.wrongs(0, 1, 1, 0, 0), 8);
    }

    private static void wrongs() {
        UnlearnedHand x = made();
        x.teach(0, 0, 30);
        x.teach(0, 1, 40);
        x.teach(0, 2, 50);
        // By k 30: wrong 30, right less by 15.
        Due.is("P29 three may be had", x.wrongs(0, 2, 30, 3, -1), 0);
        Due.is("P29 no lesson", x.wrongs(0, 2, 30, 3, 0), 8);
        Due.is("P29 no lesson", x.wrongs(0, 2, 30, 3, 1), 8);
        Due.is("P29 two may", x.wrongs(0, 2, 30, 2, -1), 1);
        Due.is("P29 none ahead of all", x.wrongs(0, 2, 30, 2, 0), 8);
        Due.is("P29 then the lowest", x.wrongs(0, 2, 30, 2, 1), 0);
        Due.is("P29 one may", x.wrongs(0, 2, 30, 1, -1), 2);
        Due.is("P29 the lowest", x.wrongs(0, 2, 30, 1, 0), 0);
        Due.is("P29 then the next", x.wrongs(0, 2, 30, 1, 1), 1);
        Due.is("P29 none may: 2 wants two", x.wrongs(0, 2, 30, 0, -1), -1);
        Due.is("P29 no i-th then", x.wrongs(0, 2, 30, 0, 0), -1);
        Due.is("P29 nor in three nights", x.wrongs(0, 3, 30, 0, -1), -1);
        Due.is("P29 in four nights", x.wrongs(0, 4, 30, 0, -1), 4);
        Due.is("P29 0", x.wrongs(0, 4, 30, 0, 0), 0);
        Due.is("P29 1", x.wrongs(0, 4, 30, 0, 1), 1);
        Due.is("P29 2", x.wrongs(0, 4, 30, 0, 2), 2);
        Due.is("P29 2 once more", x.wrongs(0, 4, 30, 0, 3), 2);
        Due.is("P29 by 40 in four nights", x.wrongs(0, 4, 40, 0, -1), 3);
        Due.is("P29 8", x.wrongs(0, 4, 40, 0, 0), 8);
        Due.is("P29 0", x.wrongs(0, 4, 40, 0, 1), 0);
        Due.is("P29 1", x.wrongs(0, 4, 40, 0, 2), 1);
        Due.is("P29 2", x.wrongs(0, 4, 40, 0, 3), 2);
        Due.is("P29 one twice", x.wrongs(1, 1, 5, 0, -1), 0);
        x.teach(1, 2, 90);
        Due.is("P29 2 twice", x.wrongs(1, 3, 35, 0, -1), 2);
        Due.is("P29 none ahead", x.wrongs(1, 3, 35, 0, 0), 8);
        Due.is("P29 2", x.wrongs(1, 3, 35, 0, 1), 2);
        Due.is("P29 and 2", x.wrongs(1, 3, 35, 0, 2), 2);
        x.sing(1, 2, true);
        Due.is("P29 sung: it wants wrong alone", x.wrongs(1, 3, 35, 0, -1), 3);
        UnlearnedHand none = new UnlearnedHand();
        none.man(1);
        Due.is("P29 without turns", none.wrongs(0, 4, 9, 0, -1), 0);
        Due.is("P29 without turns", none.wrongs(0, 4, 9, 0, 3), 8);
    }

    private static void wrongsInOrder() {
        UnlearnedHand x = made();
        // Wrongs drop by all at once: only the last night's lesson is left, but each pushes.
        Due.text(x, "drops 99; pushes much; fades 0; has right>20;");
        x.by(0);
        x.teach(0, 0, 30);
        x.teach(0, 2, 30);
        Due.is("P29 one of both", x.wrongs(0, 4, 10, 1, -1), 1);
        Due.is("P29 the last night", x.wrongs(0, 4, 10, 1, 3), 0);
        Due.is("P29 both", x.wrongs(0, 4, 10, 0, -1), 2);
        Due.is("P29 0 first", x.wrongs(0, 4, 10, 0, 2), 0);
        Due.is("P29 2 then", x.wrongs(0, 4, 10, 0, 3), 2);
        // The sooner the lesson, the longer it fades.
        UnlearnedHand z = made();
        Due.text(z, "fades wrong; has right>0;");
        z.by(0);
        z.teach(0, 1, 60);
        Due.is("P29 one lesson", z.wrongs(0, 3, 20, 0, -1), 1);
        Due.is("P29 in the first night", z.wrongs(0, 3, 20, 0, 0), 1);
        Due.is("P29 none behind", z.wrongs(0, 3, 20, 0, 1), 8);
        Due.is("P29 none behind", z.wrongs(0, 3, 20, 0, 2), 8);
        // Trials aside: the night of day 30 is among these.
        UnlearnedHand y = made();
        y.teach(0, 0, 99);
        y.night(28);
        y.allow(8);
        Due.is("P29 none is free by them", y.wrongs(0, 4, 48, 0, -1), 1);
        Due.is("P29 so the latest night that is enough", y.wrongs(0, 4, 48, 0, 3), 0);
    }

    private static void wrongsOfOthers() {
        UnlearnedHand x = made();
        Due.is("P29 man 2", x.wrongs(2, 1, 1, 0, -1), -1);
        Due.is("P29 man -1", x.wrongs(-1, 1, 1, 0, -1), -1);
        Due.is("P29 n 0", x.wrongs(0, 0, 1, 0, -1), -1);
        Due.is("P29 n 5", x.wrongs(0, 5, 1, 0, -1), -1);
        Due.is("P29 k 0", x.wrongs(0, 1, 0, 0, -1), -1);
        Due.is("P29 k 100", x.wrongs(0, 1, 100, 0, -1), -1);
        Due.is("P29 b -1", x.wrongs(0, 1, 1, -1, -1), -1);
        Due.is("P29 b 9", x.wrongs(0, 1, 1, 9, -1), -1);
        Due.is("P29 b 8", x.wrongs(0, 1, 1, 8, -1), 0);
        Due.is("P29 i 1 of 1", x.wrongs(0, 1, 1, 0, 1), -1);
        Due.is("P29 i -2", x.wrongs(0, 1, 1, 0, -2), -1);
        x.tried(0);
        Due.is("P29 a free one", x.wrongs(0, 1, 1, 0, -1), -1);
    }

    private static void nothingChanges() {
        UnlearnedHand x = made();
        x.teach(0, 0, 50);
        x.foretold(60, 0);
        x.free(60, 0);
        x.lasts(0, 0);
        x.wrongs(0, 4, 50, 0, -1);
        Due.is("right stays", x.hand(0, 0, 0), 50);
        Due.is("wrong stays", x.hand(0, 0, 1), 0);
        Due.is("day stays", x.about(3), 0);
        Due.is("free stays", x.of(0, 4), 0);
        Due.is("steps stay", x.about(7), 1);
    }
}
