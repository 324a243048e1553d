/** The edges of promises 36 and 37: the order of a trial, and the orders in which turns can have been told. */
public final class OrdersEdgesTest {
    public static void main(String[] args) {
        trialOthers();
        trialOfOne();
        trialMeans();
        trialOrders();
        trialOfLikeOnes();
        trialAsNow();
        toldOthers();
        toldHowMany();
        toldByLeads();
        toldFirst();
        toldNone();
        Due.end();
    }

    private static void trialOthers() {
        for (int i = -2; i <= 0; i++) {
            int it = i;
            for (int man : Edge.beyond(0, 1)) {
                Edge.stays("P36 -100 for others: MAN " + man, Made::lived, x -> x.trial(man, 7, it), -100);
            }
            for (int turns : Edge.beyond(1, 7)) {
                Edge.stays("P36 -100 for others: TURNS " + turns, Made::lived, x -> x.trial(0, turns, it), -100);
            }
            for (int turns : Edge.beyond(1, 255)) {
                Edge.stays("P36 -100 for others, of eight: TURNS " + turns, Made::allTurns, x -> x.trial(0, turns, it), -100);
            }
            Edge.stays("P36 -100: a set of 1 to 5: 0", Made::lived, x -> x.trial(0, 0, it), -100);
            for (int turns : new int[] {63, 252, 127, 254, 255, 235}) {
                Edge.stays("P36 -100: a set of 1 to 5: " + Integer.bitCount(turns), Made::allTurns, x -> x.trial(0, turns, it), -100);
            }
            Edge.stays("P36 -100: told ones and one that isn't", Made::lived, x -> x.trial(0, 9, it), -100);
            Edge.stays("P36 -100: nobody, nothing", Made::fresh, x -> x.trial(0, 1, it), -100);
            Edge.stays("P36 -100: nobody", () -> Made.turnsAndMen(8, 0), x -> x.trial(0, 1, it), -100);
        }
        int[] sets = {1, 3, 7, 15, 31};
        for (int size = 1; size <= 5; size++) {
            int turns = sets[size - 1];
            for (int i : Edge.beyond(-2, size - 1)) {
                Edge.stays("P36 -100 if there is none such: " + i + " of " + size, Made::allTurns, x -> x.trial(0, turns, i), -100);
            }
        }
    }

    /** One man; each turn by its worth and its right. */
    private static UnlearnedHand trying(int... pairs) {
        UnlearnedHand x = new UnlearnedHand();
        x.man(0);
        for (int i = 0; i < pairs.length; i += 2) {
            x.turn(pairs[i]);
            if (pairs[i + 1] > 0) {
                x.teach(0, i / 2, pairs[i + 1]);
            }
        }
        return x;
    }

    /** All that a trial answers: the mean, then the order. */
    private static void trial(String sentence, Edge.Maker maker, int turns, long upper, long lower, int... order) {
        Edge.stays("P36 " + sentence + ": the upper (i -2)", maker, x -> x.trial(0, turns, -2), upper);
        Edge.stays("P36 " + sentence + ": the lower one (i NONE)", maker, x -> x.trial(0, turns, -1), lower);
        for (int i = 0; i < order.length; i++) {
            int it = i;
            Edge.stays("P36 " + sentence + ": the TURN " + i, maker, x -> x.trial(0, turns, it), order[i]);
        }
    }

    private static void trialOfOne() {
        trial("one TURN costs its WORTH: 1", () -> trying(1, 0), 1, 1, 1, 0);
        trial("one TURN costs its WORTH, whatever RIGHT is: 99", () -> trying(1, 1, 99, 99), 2, 99, 1, 1);
        trial("the eighth TURN alone", () -> trying(1, 1, 2, 2, 3, 3, 4, 4, 5, 5, 6, 6, 7, 7, 8, 8), 128, 8, 1, 7);
    }

    private static void trialMeans() {
        trial("RIGHT 0 out of 100: all are paid", () -> trying(10, 0, 20, 0), 3, 30, 1, 0, 1);
        // 10 and 0.99 times 20.
        trial("RIGHT 1 out of 100, in lowest terms", () -> trying(10, 1, 20, 0), 3, 149, 5, 0, 1);
        trial("RIGHT 99 out of 100", () -> trying(10, 99, 20, 0), 3, 51, 5, 0, 1);
        trial("the mean of five, nothing right", () -> trying(99, 0, 99, 0, 99, 0, 99, 0, 99, 0), 31, 495, 1, 0, 1, 2, 3, 4);
        trial("the mean of five, all but sure", () -> trying(99, 99, 99, 99, 99, 99, 99, 99, 99, 99), 31, 99L * 101010101L, 100000000L, 0, 1, 2, 3, 4);
        trial("the mean of five, hardly any", () -> trying(99, 1, 99, 1, 99, 1, 99, 1, 99, 1), 31,
            99L * (100000000L + 99L * 1000000L + 9801L * 10000L + 970299L * 100L + 96059601L), 100000000L, 0, 1, 2, 3, 4);
    }

    private static void trialOrders() {
        trial("what costs more first, as it is likelier", () -> trying(10, 1, 20, 99), 3, 201, 10, 1, 0);
        trial("as likely: what costs less first", () -> trying(20, 50, 10, 50), 3, 20, 1, 1, 0);
        trial("as dear: what is likelier first", () -> trying(10, 50, 10, 60), 3, 14, 1, 1, 0);
        trial("the mean of five", () -> trying(1, 50, 1, 50, 1, 50, 1, 50, 1, 50), 31, 31, 16, 0, 1, 2, 3, 4);
        // 1, 1.8, 2.43, 2.916 and 3.2805.
        trial("five of eight, the last ones", () -> trying(9, 0, 9, 0, 9, 0, 5, 10, 4, 10, 3, 10, 2, 10, 1, 10), 248, 22853, 2000, 7, 6, 5, 4, 3);
    }

    private static void trialOfLikeOnes() {
        trial("of like ones the lowest first TURN", () -> trying(7, 30, 7, 30, 7, 30, 7, 30), 15, 17731, 1000, 0, 1, 2, 3);
        trial("of like ones by WORTH to RIGHT", () -> trying(20, 40, 10, 20), 3, 26, 1, 0, 1);
        trial("of like ones by WORTH to RIGHT, the other way round", () -> trying(10, 20, 20, 40), 3, 26, 1, 0, 1);
        trial("then the second", () -> trying(6, 0, 6, 0, 1, 99, 6, 0), 15, 59, 50, 2, 0, 1, 3);
        trial("a TURN that is never done right: last", () -> trying(1, 0, 99, 1), 3, 9999, 100, 1, 0);
    }

    private static void trialAsNow() {
        Edge.taken("P36 with RIGHT, not BEST", () -> trying(10, 90, 10, 50), x -> x.mislead(0, 0, 99), 41, x -> x.trial(0, 3, 0), 1);
        Edge.taken("P36 with RIGHT, whatever WRONG is", () -> trying(10, 90, 10, 50), x -> x.sing(0, 0, true) ? x.mislead(0, 0, 99) : -5, 90,
            x -> x.trial(0, 3, 0), 0);
        Edge.taken("P36 of a FREE one", () -> trying(10, 50, 10, 90), x -> x.allow(8) ? x.tried(0) : -5, 2, x -> x.trial(0, 3, 0), 1);
        UnlearnedHand x = Made.allMen();
        x.turn(1);
        x.teach(5, 1, 99);
        Due.is("P36 the last MAN", x.trial(5, 3, 0), 1);
        Due.is("P36 the first MAN", x.trial(0, 3, 0), 0);
    }

    private static void toldOthers() {
        for (int i = -1; i <= 0; i++) {
            int it = i;
            for (int turns : Edge.beyond(1, 7)) {
                Edge.stays("P37 NONE for others: TURNS " + turns, Made::lived, x -> x.told(turns, it), -1);
            }
            for (int turns : Edge.beyond(1, 255)) {
                Edge.stays("P37 NONE for others, of eight: TURNS " + turns, Made::allTurns, x -> x.told(turns, it), -1);
            }
            Edge.stays("P37 NONE: a set of 1 to 6: 0", Made::allTurns, x -> x.told(0, it), -1);
            for (int turns : new int[] {127, 254, 191, 255}) {
                Edge.stays("P37 NONE: a set of 1 to 6: " + Integer.bitCount(turns), Made::allTurns, x -> x.told(turns, it), -1);
            }
            Edge.stays("P37 NONE: told ones and one that isn't", Made::lived, x -> x.told(9, it), -1);
            Edge.stays("P37 NONE: nothing", Made::fresh, x -> x.told(1, it), -1);
        }
        int[] sets = {128, 129, 193, 225, 241, 249};
        for (int size = 1; size <= 6; size++) {
            int turns = sets[size - 1];
            for (int i : Edge.beyond(-1, size - 1)) {
                Edge.stays("P37 NONE: there is none such: " + i + " of " + size, Made::allTurns, x -> x.told(turns, i), -1);
            }
        }
    }

    private static UnlearnedHand led(int... leads) {
        UnlearnedHand x = Made.turnsAndMen(8, 0);
        for (int i = 0; i < leads.length; i += 2) {
            x.leads(leads[i], leads[i + 1]);
        }
        return x;
    }

    /** All that told answers: how many orders, then the first. */
    private static void told(String sentence, Edge.Maker maker, int turns, int orders, int... first) {
        Edge.stays("P37 " + sentence + ": how many (i NONE)", maker, x -> x.told(turns, -1), orders);
        for (int i = 0; i < first.length; i++) {
            int it = i;
            Edge.stays("P37 " + sentence + ": the TURN " + i, maker, x -> x.told(turns, it), first[i]);
        }
    }

    private static void toldHowMany() {
        told("a set of one", () -> led(), 1, 1, 0);
        told("a set of one, the last", () -> led(), 128, 1, 7);
        told("a set of two", () -> led(), 129, 2, 0, 7);
        told("a set of three", () -> led(), 131, 6, 0, 1, 7);
        told("a set of four", () -> led(), 135, 24, 0, 1, 2, 7);
        told("a set of five", () -> led(), 143, 120, 0, 1, 2, 3, 7);
        told("a set of six", () -> led(), 159, 720, 0, 1, 2, 3, 4, 7);
    }

    private static void toldByLeads() {
        told("one ahead of what it LEADS to", () -> led(0, 1), 3, 1, 0, 1);
        told("one ahead of what it LEADS to, the higher one", () -> led(1, 0), 3, 1, 1, 0);
        told("none ahead of all that LEAD to it: behind one is enough", () -> led(1, 0, 2, 0), 7, 4, 1, 0, 2);
        told("none ahead of all that LEAD to it: of three", () -> led(1, 0, 2, 0, 3, 0), 15, 18, 1, 0, 2, 3);
        told("of those that any in the set leads to: from outside it doesn't count", () -> led(7, 0), 3, 2, 0, 1);
        told("all in the set: one outside doesn't help", () -> led(7, 0, 1, 0), 3, 1, 1, 0);
        told("a set of one that another LEADS to", () -> led(1, 0), 1, 1, 0);
        told("one behind the other", () -> led(5, 4, 4, 3, 3, 2, 2, 1, 1, 0), 63, 1, 5, 4, 3, 2, 1, 0);
        told("one behind the other, through one that isn't in the set", () -> led(2, 1, 1, 0), 5, 2, 0, 2);
        told("one LEADS to all", () -> led(7, 0, 7, 1, 7, 2, 7, 3, 7, 4), 159, 120, 7, 0, 1, 2, 3, 4);
        told("all LEAD to one", () -> led(1, 0, 2, 0, 3, 0, 4, 0, 7, 0), 159, 600, 1, 0, 2, 3, 4, 7);
    }

    private static void toldFirst() {
        told("by the lowest first TURN, then the second", () -> led(2, 0, 3, 1), 15, 6, 2, 0, 3, 1);
        told("by the lowest first TURN, though it LEADS to none", () -> led(3, 1), 15, 12, 0, 2, 3, 1);
        told("to and fro, with a way in", () -> led(0, 1, 1, 0, 2, 1), 7, 1, 2, 1, 0);
        told("the last TURN first", () -> led(7, 2, 2, 5, 5, 0), 165, 1, 7, 2, 5, 0);
    }

    private static void toldNone() {
        told("no order: 0, in a ring of two", () -> led(0, 1, 1, 0), 3, 0, -1, -1);
        told("no order: 0, in a ring of six", () -> led(0, 1, 1, 2, 2, 3, 3, 4, 4, 7, 7, 0), 159, 0, -1, -1, -1, -1, -1, -1);
        told("no order: 0, a ring aside", () -> led(0, 1, 1, 0), 7, 0, -1, -1, -1);
        told("in a ring, but not all of it in the set", () -> led(0, 1, 1, 2, 2, 0), 3, 1, 0, 1);
    }
}
