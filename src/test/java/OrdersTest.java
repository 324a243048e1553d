/** Promises 36 and 37: the order of a trial, and orders in which turns can have been told. */
public final class OrdersTest {
    public static void main(String[] args) {
        trial();
        trialOfLikeOnes();
        trialOfOthers();
        told();
        toldOfOthers();
        Due.end();
    }

    private static void trial() {
        UnlearnedHand x = new UnlearnedHand();
        int[] worths = {10, 20, 30, 40, 50, 60};
        int[] rights = {5, 40, 90, 50, 99, 70};
        x.man(0);
        for (int t = 0; t < 6; t++) {
            x.turn(worths[t]);
            x.teach(0, t, rights[t]);
        }
        Due.is("P36 one: the mean", x.trial(0, 4, -2), 30);
        Due.is("P36 one: by 1", x.trial(0, 4, -1), 1);
        Due.is("P36 one", x.trial(0, 4, 0), 2);
        // 1 first: 20 + 0.6 * 10 = 26; 0 first: 10 + 0.95 * 20 = 29.
        Due.is("P36 two: the mean", x.trial(0, 3, -2), 26);
        Due.is("P36 two: the first", x.trial(0, 3, 0), 1);
        Due.is("P36 two: the second", x.trial(0, 3, 1), 0);
        // The best order is by worth by right: 2 (33), 1 (50), 4 (51), 3 (80), 0 (200).
        int[] due = {2, 1, 4, 3, 0};
        for (int i = 0; i < 5; i++) {
            Due.is("P36 five: the " + i + "-th", x.trial(0, 31, i), due[i]);
        }
        // 30 + 0.1 * (20 + 0.6 * (50 + 0.01 * (40 + 0.5 * 10))) = 35.027
        Due.is("P36 five: upper", x.trial(0, 31, -2), 35027);
        Due.is("P36 five: lower", x.trial(0, 31, -1), 1000);
        Due.is("P36 six", x.trial(0, 63, -2), -100);
        UnlearnedHand y = new UnlearnedHand();
        y.man(0);
        for (int t = 0; t < 5; t++) {
            y.turn(99);
        }
        Due.is("P36 nothing right: all are paid", y.trial(0, 31, -2), 495);
        Due.is("P36 by 1", y.trial(0, 31, -1), 1);
    }

    private static void trialOfLikeOnes() {
        UnlearnedHand x = new UnlearnedHand();
        x.man(0);
        for (int t = 0; t < 4; t++) {
            x.turn(6);
        }
        x.teach(0, 3, 50);
        Due.is("P36 3 first", x.trial(0, 15, 0), 3);
        Due.is("P36 then the lowest", x.trial(0, 15, 1), 0);
        Due.is("P36 then the next", x.trial(0, 15, 2), 1);
        Due.is("P36 then the last", x.trial(0, 15, 3), 2);
        Due.is("P36 the mean", x.trial(0, 15, -2), 15);
    }

    private static void trialOfOthers() {
        UnlearnedHand x = new UnlearnedHand();
        x.man(0);
        x.turn(6);
        x.turn(7);
        Due.is("P36 no turns", x.trial(0, 0, -2), -100);
        Due.is("P36 a turn that isn't told", x.trial(0, 4, -2), -100);
        Due.is("P36 -1", x.trial(0, -1, -2), -100);
        Due.is("P36 man 1", x.trial(1, 1, -2), -100);
        Due.is("P36 man -1", x.trial(-1, 1, -2), -100);
        Due.is("P36 i -3", x.trial(0, 3, -3), -100);
        Due.is("P36 i 2 of 2", x.trial(0, 3, 2), -100);
        x.allow(8);
        x.tried(0);
        Due.is("P36 a free one too", x.trial(0, 3, -2), 13);
    }

    private static void told() {
        UnlearnedHand x = new UnlearnedHand();
        for (int t = 0; t < 8; t++) {
            x.turn(1);
        }
        Due.is("P37 six, no leads", x.told(63, -1), 720);
        Due.is("P37 the first", x.told(252, 5), 7);
        Due.is("P37 seven", x.told(127, -1), -1);
        x.leads(3, 0);
        x.leads(2, 0);
        // 0 isn't ahead of both 2 and 3.
        Due.is("P37 one that leads is enough", x.told(13, -1), 4);
        Due.is("P37 the first of it", x.told(13, 0), 2);
        Due.is("P37 then 0", x.told(13, 1), 0);
        Due.is("P37 then 3", x.told(13, 2), 3);
        Due.is("P37 leads from outside don't count", x.told(3, -1), 2);
        Due.is("P37 one of them in the set", x.told(5, -1), 1);
        Due.is("P37 its first", x.told(5, 0), 2);
        x.leads(4, 5);
        x.leads(5, 4);
        Due.is("P37 in a ring: no order", x.told(48, -1), 0);
        Due.is("P37 in a ring: no i-th", x.told(48, 0), -1);
        x.leads(1, 5);
        Due.is("P37 a ring with a way in", x.told(50, -1), 1);
        Due.is("P37 1", x.told(50, 0), 1);
        Due.is("P37 5", x.told(50, 1), 5);
        Due.is("P37 4", x.told(50, 2), 4);
        Due.is("P37 one alone", x.told(1, -1), 1);
        Due.is("P37 one alone", x.told(1, 0), 0);
    }

    private static void toldOfOthers() {
        UnlearnedHand x = new UnlearnedHand();
        x.turn(1);
        x.turn(1);
        Due.is("P37 no turns", x.told(0, -1), -1);
        Due.is("P37 a turn that isn't told", x.told(4, -1), -1);
        Due.is("P37 -1", x.told(-1, -1), -1);
        Due.is("P37 i -2", x.told(3, -2), -1);
        Due.is("P37 i 2 of 2", x.told(3, 2), -1);
    }
}
