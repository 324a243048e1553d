/** The edges of promises 30 to 35, 38 and 39: what is found by sets. */
public final class SetsEdgesTest {
    public static void main(String[] args) {
        doneOthers();
        done();
        setsOthers();
        sets();
        setsByLeads();
        setsByDone();
        shammedOthers();
        shammed();
        shammedOfWhat();
        halvesOthers();
        halves();
        backOthers();
        back();
        fewSmellsOthers();
        fewSmells();
        spiesOthers();
        spies();
        spiesOfLikeOnes();
        soldOthers();
        sold();
        Due.end();
    }

    private static void doneOthers() {
        for (int turn : Edge.beyond(-1, 2)) {
            Edge.stays("P30 -2 for others: TURN " + turn, Made::lived, x -> x.done(turn, true), -2);
            Edge.stays("P30 -2 for others, done wrong: TURN " + turn, Made::lived, x -> x.done(turn, false), -2);
        }
        Edge.stays("P30 -2: no TURN is told", Made::fresh, x -> x.done(0, true), -2);
        Edge.stays("P30 -2 if there are 8", Made::allDone, x -> x.done(0, true), -2);
        Edge.stays("P30 -2 if there are 8, done wrong", Made::allDone, x -> x.done(1, false), -2);
        Edge.stays("P30 -2 if there are 8, a TURN that wasn't done", Made::allDone, x -> x.done(2, true), -2);
        Edge.stays("P30 -2 if there are 8, for others too", Made::allDone, x -> x.done(3, true), -2);
        Edge.stays("P30 NONE: none any more, where there are none", Made::plain, x -> x.done(-1, true), 0);
    }

    private static void done() {
        UnlearnedHand x = Made.plain();
        for (int i = 1; i <= 8; i++) {
            Due.is("P30 one more: how many there are", x.done(0, true), i);
        }
        Due.is("P30 -2 if there are 8", x.done(0, true), -2);
        Due.is("P30 8 at most", x.about(8), 8);
        Edge.taken("P30 the eighth counts: done right", () -> seven(), y -> y.done(2, true), 8, y -> y.sets(false, 0), 7);
        Edge.taken("P30 the eighth counts: done wrong", () -> seven(), y -> y.done(2, false), 8, y -> y.sets(false, -1), 2);
        Edge.taken("P30 NONE: none any more, of 8", Made::allDone, y -> y.done(-1, true), 0, y -> y.about(8), 0);
        Edge.taken("P30 NONE: none any more, done wrong", Made::allDone, y -> y.done(-1, false), 0, y -> y.sets(false, -1), 8);
        Edge.taken("P30 then one more", Made::allDone, y -> y.done(-1, true) + y.done(2, true), 1, y -> y.sets(false, -1), 4);
        Edge.taken("P30 what was right may be wrong then", Made::allDone, y -> y.done(-1, true) + y.done(0, false), 1, y -> y.sets(false, 1), 2);
        for (int first = 0; first < 2; first++) {
            UnlearnedHand z = Made.turnsAndMen(8, 0);
            for (int i = 0; i < 8; i++) {
                z.done(i, first == 1);
            }
            Due.is("P30 none any more", z.done(-1, true), 0);
            for (int i = 0; i < 8; i++) {
                Due.is("P30 each anew, the other way round", z.done(i, first == 0), i + 1);
                Due.is("P31 by the new ones alone", z.sets(false, -1), 128 >> i);
                Due.is("P31 by the new ones alone: the first", z.sets(false, 0), first == 0 ? (2 << i) - 1 : 0);
            }
        }
        Edge.taken("P30 the last TURN", Made::allTurns, y -> y.done(7, true), 1, y -> y.sets(false, 0), 128);
        Edge.taken("P30 no STEP", Made::plain, y -> y.done(0, true), 1, y -> y.about(7), 0);
    }

    private static UnlearnedHand seven() {
        UnlearnedHand x = Made.plain();
        for (int i = 0; i < 7; i++) {
            x.done(0, true);
        }
        return x;
    }

    private static void setsOthers() {
        for (int i : Edge.beyond(-1, 3)) {
            Edge.stays("P31 NONE if there is none such, and for others: " + i, Made::plain, x -> x.sets(false, i), -1);
            Edge.stays("P31 NONE if there is none such, and for others, a shammer's: " + i, Made::plain, x -> x.sets(true, i), -1);
        }
        for (int i : Edge.beyond(-1, 255)) {
            Edge.stays("P31 NONE if there is none such, of 256: " + i, Made::allTurns, x -> x.sets(false, i), -1);
        }
        Edge.stays("P31 no TURN is told: the empty set alone", Made::fresh, x -> x.sets(false, -1), 1);
        Edge.stays("P31 no TURN is told: the empty set", Made::fresh, x -> x.sets(false, 0), 0);
        Edge.stays("P31 no TURN is told: no other", Made::fresh, x -> x.sets(true, 1), -1);
    }

    private static void sets() {
        Edge.stays("P31 how many: all of 8 TURNS", Made::allTurns, x -> x.sets(false, -1), 256);
        for (int i : new int[] {0, 1, 127, 128, 254, 255}) {
            Edge.stays("P31 as numbers, the lowest first: " + i, Made::allTurns, x -> x.sets(true, i), i);
        }
        int[] due = {0, 1, 3, 7};
        Edge.stays("P31 how many: by two LEADS", Made::plain, x -> x.sets(false, -1), 4);
        for (int i = 0; i < 4; i++) {
            int it = i;
            Edge.stays("P31 the i-th (bits): " + it, Made::plain, x -> x.sets(false, it), due[it]);
        }
    }

    private static UnlearnedHand led(int turns, int... leads) {
        UnlearnedHand x = Made.turnsAndMen(turns, 1);
        for (int i = 0; i < leads.length; i += 2) {
            x.leads(leads[i], leads[i + 1]);
        }
        return x;
    }

    private static void setsByLeads() {
        Edge.stays("P31 none without one that LEADS to it: one of two is enough", () -> led(3, 0, 2, 1, 2), x -> x.sets(false, -1), 4 + 3);
        Edge.stays("P31 if any LEADS to it: none does", () -> led(3), x -> x.sets(false, -1), 8);
        Edge.stays("P31 two that LEAD to one another", () -> led(2, 0, 1, 1, 0), x -> x.sets(false, -1), 2);
        Edge.stays("P31 two that LEAD to one another: both or none", () -> led(2, 0, 1, 1, 0), x -> x.sets(false, 1), 3);
        Edge.stays("P31 one that LEADS is enough, not those behind it", () -> led(3, 0, 1, 1, 2, 2, 0), x -> x.sets(false, -1), 2);
        Edge.stays("P31 the last LEADS to the first", () -> led(8, 7, 0), x -> x.sets(false, -1), 256 - 64);
        Edge.stays("P31 the last LEADS to the first: not by itself", () -> led(8, 7, 0), x -> x.sets(false, 1), 2);
        Edge.stays("P31 the first LEADS to the last", () -> led(8, 0, 7), x -> x.sets(false, -1), 256 - 64);
        Edge.stays("P31 one behind the other through eight", () -> led(8, 0, 1, 1, 2, 2, 3, 3, 4, 4, 5, 5, 6, 6, 7), x -> x.sets(false, -1), 9);
        Edge.stays("P31 one behind the other: the last", () -> led(8, 0, 1, 1, 2, 2, 3, 3, 4, 4, 5, 5, 6, 6, 7), x -> x.sets(false, 8), 255);
    }

    private static UnlearnedHand doneSo(String rights) {
        UnlearnedHand x = Made.turnsAndMen(3, 1);
        for (int i = 0; i < rights.length(); i += 2) {
            x.done(rights.charAt(i) - '0', rights.charAt(i + 1) == '+');
        }
        return x;
    }

    private static void setsByDone() {
        Edge.stays("P31 with all that were done right", () -> doneSo("0+2+"), x -> x.sets(false, -1), 2);
        Edge.stays("P31 with all that were done right: the first", () -> doneSo("0+2+"), x -> x.sets(false, 0), 5);
        Edge.stays("P31 with all that were done right, a shammer's too", () -> doneSo("0+2+"), x -> x.sets(true, -1), 2);
        Edge.stays("P31 without all that were done wrong", () -> doneSo("0-2-"), x -> x.sets(false, -1), 2);
        Edge.stays("P31 without all that were done wrong: the last", () -> doneSo("0-2-"), x -> x.sets(false, 1), 2);
        Edge.stays("P31 a shammer's: those may be in it", () -> doneSo("0-2-"), x -> x.sets(true, -1), 8);
        Edge.stays("P31 all done right", () -> doneSo("0+1+2+"), x -> x.sets(false, -1), 1);
        Edge.stays("P31 all done wrong", () -> doneSo("0-1-2-"), x -> x.sets(false, -1), 1);
        Edge.stays("P31 right and wrong: none", () -> doneSo("1+1-"), x -> x.sets(false, -1), 0);
        Edge.stays("P31 wrong and right: none", () -> doneSo("1-1+"), x -> x.sets(false, -1), 0);
        Edge.stays("P31 right and wrong: none such", () -> doneSo("1+1-"), x -> x.sets(false, 0), -1);
        Edge.stays("P31 right and wrong: a shammer's", () -> doneSo("1+1-"), x -> x.sets(true, -1), 4);
        Edge.stays("P31 right twice is right", () -> doneSo("1+1+"), x -> x.sets(false, -1), 4);
        Edge.stays("P31 by eight that were done", () -> doneSo("0+0+0+0+0+0+0+2-"), x -> x.sets(false, -1), 2);
        Edge.stays("P31 by LEADS and DONE: what LEADS to it was done wrong", () -> doneAndLed(), x -> x.sets(false, -1), 0);
        Edge.stays("P31 by LEADS and DONE: a shammer's", () -> doneAndLed(), x -> x.sets(true, -1), 1);
        Edge.stays("P31 by LEADS and DONE: a shammer's first", () -> doneAndLed(), x -> x.sets(true, 0), 7);
    }

    private static UnlearnedHand doneAndLed() {
        UnlearnedHand x = Made.plain();
        x.done(2, true);
        x.done(0, false);
        return x;
    }

    private static void shammedOthers() {
        for (int low = 0; low < 2; low++) {
            boolean is = low == 1;
            for (int man : Edge.beyond(0, 1)) {
                Edge.stays("P32 NONE for others: MAN " + man, Made::lived, x -> x.shammed(man, 5, 5, is), -1);
            }
            for (int tenths : Edge.beyond(0, 10)) {
                Edge.stays("P32 NONE for others: p " + tenths, Made::lived, x -> x.shammed(0, tenths, 5, is), -1);
                Edge.stays("P32 NONE for others: q " + tenths, Made::lived, x -> x.shammed(0, 5, tenths, is), -1);
            }
            Edge.stays("P32 NONE: nobody", Made::fresh, x -> x.shammed(0, 5, 5, is), -1);
        }
    }

    /** One man who has turns 0 and 1 of three. */
    private static UnlearnedHand hasTwo(String rights) {
        UnlearnedHand x = doneSo(rights);
        x.teach(0, 0, 9);
        x.teach(0, 1, 9);
        return x;
    }

    private static void odds(String sentence, String rights, int p, int q, long upper, long lower) {
        Edge.stays("P32 " + sentence + ": the upper", () -> hasTwo(rights), x -> x.shammed(0, p, q, false), upper);
        Edge.stays("P32 " + sentence + ": the lower", () -> hasTwo(rights), x -> x.shammed(0, p, q, true), lower);
    }

    private static void shammed() {
        odds("nothing done: p out of 10, in lowest terms", "", 5, 3, 1, 2);
        odds("nothing done: 4 out of 10", "", 4, 0, 2, 5);
        odds("nothing done: 3 out of 10", "", 3, 10, 3, 10);
        odds("p 0", "", 0, 5, 0, 1);
        odds("p 10", "", 10, 5, 1, 1);
        odds("p 0, done wrong", "0-", 0, 5, 0, 1);
        odds("p 10, done wrong", "0-", 10, 5, 1, 1);
        odds("p 10, done right", "0+", 10, 5, 1, 1);
        odds("wrong: q out of 10 by 1 out of 10", "0-", 5, 3, 3, 4);
        odds("right: 7 out of 10 by 9 out of 10", "0+", 5, 3, 7, 16);
        odds("wrong, q 10", "0-", 5, 10, 10, 11);
        odds("right, q 10: who shams does none right", "0+", 5, 10, 0, 1);
        odds("wrong, q 0: who shams does none wrong", "0-", 5, 0, 0, 1);
        odds("right, q 0", "0+", 5, 0, 10, 19);
        odds("wrong, q 1: no unlike to who doesn't", "0-", 5, 1, 1, 2);
        odds("it can't be as DONE: p 10, q 0, done wrong", "0-", 10, 0, 0, 1);
        odds("it can't be as DONE: p 10, q 10, done right", "0+", 10, 10, 0, 1);
        odds("it can be, p 10, q 0, done right", "0+", 10, 0, 1, 1);
        odds("it can be, p 10, q 10, done wrong", "0-", 10, 10, 1, 1);
        odds("it can't be as DONE: both, q 10", "0-1+", 10, 10, 0, 1);
        odds("one TURN twice counts twice", "0-0-", 5, 3, 9, 10);
        odds("right and wrong of one TURN", "0-0+", 5, 3, 7, 10);
        odds("eight done wrong, q 10", "0-1-0-1-0-1-0-1-", 1, 10, 100000000L, 100000009L);
        odds("eight done right, q 0", "0+1+0+1+0+1+0+1+", 1, 0, 100000000L, 100000000L + 9L * 43046721L);
        odds("eight done wrong, q 9", "0-1-0-1-0-1-0-1-", 10, 9, 1, 1);
    }

    private static void shammedOfWhat() {
        odds("of TURNS that he HAS now: not of others", "2-", 5, 3, 1, 2);
        odds("of TURNS that he HAS now: not of others, right", "2+2+2+", 5, 3, 1, 2);
        odds("of TURNS that he HAS now: of those alone", "2-0-2-", 5, 3, 3, 4);
        odds("the last of eight counts", "2-2-2-2-2-2-2-0-", 5, 3, 3, 4);
        Edge.taken("P32 HAS now: not any more", () -> hasTwo("0-"), x -> x.mislead(0, 0, 9), 5, x -> x.shammed(0, 5, 3, true), 2);
        Edge.taken("P32 HAS now: one more", () -> hasTwo("2-"), x -> x.teach(0, 2, 9), 9, x -> x.shammed(0, 5, 3, true), 4);
        Edge.stays("P32 of a FREE MAN", () -> freeTwo(), x -> x.shammed(0, 5, 3, false), 3);
        UnlearnedHand x = Made.allMen();
        x.done(0, false);
        Due.is("P32 the last MAN HAS it", x.shammed(5, 5, 3, true), 4);
        Due.is("P32 the first hasn't", x.shammed(0, 5, 3, true), 2);
    }

    private static UnlearnedHand freeTwo() {
        UnlearnedHand x = hasTwo("0-");
        x.allow(8);
        x.tried(0);
        return x;
    }

    private static void halvesOthers() {
        for (int what = 0; what <= 3; what++) {
            int it = what;
            for (int man : Edge.beyond(0, 1)) {
                Edge.stays("P33 NONE for others: the first " + man, Made::lived, x -> x.halves(man, 1, it), -1);
                Edge.stays("P33 NONE for others: the second " + man, Made::lived, x -> x.halves(0, man, it), -1);
            }
            Edge.stays("P33 two unlike MEN: not 0 and 0", Made::lived, x -> x.halves(0, 0, it), -1);
            Edge.stays("P33 two unlike MEN: not 1 and 1", Made::lived, x -> x.halves(1, 1, it), -1);
            Edge.stays("P33 NONE: nobody", Made::fresh, x -> x.halves(0, 1, it), -1);
            Edge.stays("P33 without TURNS", () -> Made.turnsAndMen(0, 2), x -> x.halves(0, 1, it), 0);
        }
        for (int what : Edge.beyond(0, 3)) {
            Edge.stays("P33 NONE for others: what " + what, Made::lived, x -> x.halves(0, 1, what), -1);
        }
    }

    private static UnlearnedHand having(int... sets) {
        UnlearnedHand x = Made.turnsAndMen(8, sets.length);
        for (int man = 0; man < sets.length; man++) {
            for (int turn = 0; turn < 8; turn++) {
                if ((sets[man] >> turn & 1) != 0) {
                    x.teach(man, turn, 9);
                }
            }
        }
        return x;
    }

    private static void halves() {
        int[][] pairs = {{0, 0}, {255, 255}, {255, 0}, {0, 255}, {129, 128}, {15, 60}, {170, 85}};
        for (int[] pair : pairs) {
            Edge.stays("P33 just the first HAS", () -> having(pair), x -> x.halves(0, 1, 0), pair[0] & ~pair[1]);
            Edge.stays("P33 just the second HAS", () -> having(pair), x -> x.halves(0, 1, 1), pair[1] & ~pair[0]);
            Edge.stays("P33 both HAVE", () -> having(pair), x -> x.halves(0, 1, 2), pair[0] & pair[1]);
            Edge.stays("P33 neither HAS", () -> having(pair), x -> x.halves(0, 1, 3), 255 & ~(pair[0] | pair[1]));
            Edge.stays("P33 the other way round", () -> having(pair), x -> x.halves(1, 0, 0), pair[1] & ~pair[0]);
        }
        Edge.stays("P33 neither: of TURNS that are told", () -> Made.turnsAndMen(3, 2), x -> x.halves(0, 1, 3), 7);
        Edge.stays("P33 the last MAN", Made::allMen, x -> x.halves(5, 0, 0), 1);
        Edge.stays("P33 of a FREE MAN", Made::freed, x -> x.halves(0, 1, 1), 4);
    }

    private static void backOthers() {
        for (int smells : Edge.beyond(0, 3)) {
            Edge.stays("P34 NONE for others: " + smells, Made::lived, x -> x.back(smells), -1);
        }
        for (int smells : Edge.beyond(0, 63)) {
            Edge.stays("P34 NONE for others, of six: " + smells, Made::allSmells, x -> x.back(smells), -1);
        }
        Edge.stays("P34 NONE: told ones and one that isn't", Made::lived, x -> x.back(1 + 4), -1);
        Edge.stays("P34 no SMELLS: 0", Made::lived, x -> x.back(0), 0);
        Edge.stays("P34 no SMELLS: 0, without any", Made::fresh, x -> x.back(0), 0);
        Edge.stays("P34 NONE: none is told", Made::allTurns, x -> x.back(1), -1);
    }

    private static void back() {
        Edge.stays("P34 one", Made::lived, x -> x.back(1), 6);
        Edge.stays("P34 another", Made::lived, x -> x.back(2), 7);
        Edge.stays("P34 two", Made::lived, x -> x.back(3), 7);
        Edge.stays("P34 six", Made::allSmells, x -> x.back(63), 7);
        Edge.stays("P34 the last of six", Made::allSmells, x -> x.back(32), 6);
        Edge.stays("P34 whatever anybody HAS, or BEST is", () -> smelling(4, 8), x -> x.back(1), 4);
        for (int way = 0; way < 2; way++) {
            UnlearnedHand x = Made.turnsAndMen(8, 0);
            for (int turn = 0; turn < 7; turn++) {
                Due.is("leads", x.leads(way == 0 ? turn : turn + 1, way == 0 ? turn + 1 : turn), true);
            }
            x.smell(way == 0 ? 1 : 128);
            x.smell(way == 0 ? 128 : 1);
            x.smell(16);
            Due.is("P34 one behind the other: all", x.back(1), 255);
            Due.is("P34 the last leads to none", x.back(2), way == 0 ? 128 : 1);
            Due.is("P34 from the midst", x.back(4), way == 0 ? 240 : 31);
        }
        Edge.taken("P34 by LEADS that are told since", Made::lived, z -> z.leads(2, 0) ? 1 : 0, 1, z -> z.back(1), 7);
        Edge.taken("P34 by TURNS that are told since", Made::lived, z -> z.turn(9) + (z.leads(2, 3) ? 1 : 0), 4, z -> z.back(1), 14);
        UnlearnedHand y = led(8, 0, 7, 7, 1, 1, 6, 6, 2, 2, 5, 5, 3, 3, 4, 4, 0);
        y.smell(8);
        Due.is("P34 in a ring, to and fro", y.back(1), 255);
    }

    private static UnlearnedHand smelling(int... sets) {
        UnlearnedHand x = Made.turnsAndMen(8, 1);
        for (int set : sets) {
            x.smell(set);
        }
        return x;
    }

    private static void fewSmellsOthers() {
        for (int turns : Edge.beyond(0, 7)) {
            Edge.stays("P35 NONE for others: " + turns, Made::lived, x -> x.fewSmells(turns), -1);
        }
        for (int turns : Edge.beyond(0, 255)) {
            Edge.stays("P35 NONE for others, of eight: " + turns, () -> smelling(255), x -> x.fewSmells(turns), -1);
        }
        Edge.stays("P35 NONE: told ones and one that isn't", Made::lived, x -> x.fewSmells(1 + 8), -1);
        Edge.stays("P35 no TURNS: no SMELLS", Made::lived, x -> x.fewSmells(0), 0);
        Edge.stays("P35 no TURNS: no SMELLS, without any", Made::fresh, x -> x.fewSmells(0), 0);
        Edge.stays("P35 NONE: none, without SMELLS", () -> Made.turnsAndMen(1, 1), x -> x.fewSmells(1), -1);
        Edge.stays("P35 NONE: none", () -> smelling(1, 2, 4), x -> x.fewSmells(8), -1);
        Edge.stays("P35 NONE: one of them comes back by none", () -> smelling(1, 2, 4), x -> x.fewSmells(15), -1);
    }

    private static void fewSmells() {
        Edge.stays("P35 the fewest: one, though two lower ones", () -> smelling(1, 2, 3), x -> x.fewSmells(3), 4);
        Edge.stays("P35 of like ones the lowest set: one", () -> smelling(3, 1, 3), x -> x.fewSmells(3), 1);
        Edge.stays("P35 of like ones the lowest set: two", () -> smelling(1, 2, 1, 2), x -> x.fewSmells(3), 3);
        Edge.stays("P35 of like ones the lowest set, not the lowest SMELL", () -> smelling(1, 6, 6, 9, 2, 4), x -> x.fewSmells(7), 3);
        Edge.stays("P35 the lowest set (bits): 6, not 9", () -> smelling(1, 3, 12, 14), x -> x.fewSmells(15), 6);
        Edge.stays("P35 two, though three lower ones", () -> smelling(1, 2, 12, 3), x -> x.fewSmells(15), 12);
        Edge.stays("P35 the last of six", () -> smelling(1, 2, 4, 8, 16, 255), x -> x.fewSmells(255), 32);
        Edge.stays("P35 all six", () -> smelling(1, 2, 4, 8, 16, 32), x -> x.fewSmells(63), 63);
        Edge.stays("P35 by what LEADS come to", Made::lived, x -> x.fewSmells(4), 1);
        Edge.stays("P35 one TURN", Made::lived, x -> x.fewSmells(1), 2);
    }

    private static void spiesOthers() {
        for (int turns : Edge.beyond(0, 7)) {
            Edge.stays("P38 NONE for others: " + turns, Made::lived, x -> x.spies(turns), -1);
        }
        for (int turns : Edge.beyond(0, 255)) {
            Edge.stays("P38 NONE for others, of eight: " + turns, () -> having(255), x -> x.spies(turns), -1);
        }
        Edge.stays("P38 no TURNS: nobody", Made::lived, x -> x.spies(0), 0);
        Edge.stays("P38 no TURNS: nobody, without MEN", Made::fresh, x -> x.spies(0), 0);
        Edge.stays("P38 NONE: none, without MEN", () -> Made.turnsAndMen(1, 0), x -> x.spies(1), -1);
        Edge.stays("P38 NONE: none HAS it", () -> having(1, 2), x -> x.spies(4), -1);
        Edge.stays("P38 NONE: one of them nobody HAS", () -> having(1, 2), x -> x.spies(7), -1);
    }

    private static void spies() {
        Edge.stays("P38 the fewest: one, though he HAS less WORTH than two", () -> having(131, 194, 3), x -> x.spies(3), 1);
        Edge.stays("P38 the fewest: the last of six", () -> having(1, 2, 4, 8, 16, 255), x -> x.spies(255), 32);
        Edge.stays("P38 all six", () -> having(1, 2, 4, 8, 16, 32), x -> x.spies(63), 63);
        Edge.stays("P38 the last TURN", () -> having(127, 128), x -> x.spies(128), 2);
        Edge.stays("P38 a FREE one is a spy as well", Made::freed, x -> x.spies(4), 2);
        Edge.stays("P38 who HAS none of them is no spy", () -> having(192, 1), x -> x.spies(1), 2);
    }

    /** Turn t is of worth t + 1. */
    private static void spiesOfLikeOnes() {
        Edge.stays("P38 of like ones the most WORTH in all", () -> having(1, 3), x -> x.spies(1), 2);
        Edge.stays("P38 of like ones the most WORTH in all, of any TURNS", () -> having(129, 65), x -> x.spies(1), 1);
        Edge.stays("P38 then the lowest set", () -> having(5, 9, 9), x -> x.spies(1), 2);
        Edge.stays("P38 then the lowest set: 3 and 4 by one, 1, 2 and 4 by the others", () -> having(12, 11, 11), x -> x.spies(8), 1);
        Edge.stays("P38 what two have counts twice", () -> having(1 + 128, 2, 2 + 128), x -> x.spies(3), 5);
        Edge.stays("P38 what two have counts twice, of like ones the lowest", () -> having(1 + 64, 2 + 64, 2 + 64), x -> x.spies(3), 3);
        Edge.stays("P38 by itself, together: more WORTH by less TURNS", () -> having(1 + 8, 2, 2 + 4, 2 + 16), x -> x.spies(3), 9);
    }

    private static void soldOthers() {
        for (int n : Edge.beyond(1, 6)) {
            Edge.stays("P39 NONE for others: " + n, Made::lived, x -> x.sold(n), -1);
        }
        for (int n = 1; n <= 6; n++) {
            int it = n;
            Edge.stays("P39 nobody: 0", Made::fresh, x -> x.sold(it), 0);
            Edge.stays("P39 nobody HAS any: 0", () -> having(0, 0), x -> x.sold(it), 0);
            Edge.stays("P39 n MEN at most: there is one", () -> having(255), x -> x.sold(it), 36);
        }
    }

    private static void sold() {
        int[] due = {8, 15, 21, 26, 30, 33};
        for (int n = 1; n <= 6; n++) {
            int it = n;
            Edge.stays("P39 by n MEN at most: " + n, () -> having(4, 8, 16, 32, 64, 128), x -> x.sold(it), due[it - 1]);
        }
        Edge.stays("P39 what two have counts once", () -> having(129, 130), x -> x.sold(2), 8 + 1 + 2);
        Edge.stays("P39 not the two that have the most by themselves", () -> having(224, 224, 24), x -> x.sold(2), 21 + 9);
        Edge.stays("P39 not the one that has the most by itself", () -> having(127, 15 + 128, 112), x -> x.sold(2), 10 + 8 + 18);
        Edge.stays("P39 all of them", () -> having(15, 240), x -> x.sold(2), 36);
        Edge.stays("P39 fewer than may be are enough", () -> having(15, 240), x -> x.sold(6), 36);
        Edge.stays("P39 one alone", () -> having(15, 240), x -> x.sold(1), 26);
        Edge.stays("P39 a FREE one too", Made::freed, x -> x.sold(1), 10);
        UnlearnedHand x = new UnlearnedHand();
        for (int turn = 0; turn < 8; turn++) {
            x.turn(99);
        }
        x.man(0);
        for (int turn = 0; turn < 8; turn++) {
            x.teach(0, turn, 1);
        }
        Due.is("P39 the most that can be", x.sold(1), 8 * 99);
        Due.is("P38 the most that can be", x.spies(255), 1);
    }
}
