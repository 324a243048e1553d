/** Promises 30 to 35, 38 and 39: what is found by sets. */
public final class ReckoningTest {
    public static void main(String[] args) {
        done();
        sets();
        shammed();
        halves();
        back();
        fewSmells();
        spies();
        sold();
        Due.end();
    }

    private static UnlearnedHand made(int turns, int men) {
        UnlearnedHand x = new UnlearnedHand();
        for (int i = 0; i < turns; i++) {
            x.turn(1 + i);
        }
        for (int i = 0; i < men; i++) {
            x.man(i);
        }
        return x;
    }

    private static void has(UnlearnedHand x, int man, int turns) {
        for (int t = 0; t < 8; t++) {
            if ((turns >> t & 1) != 0) {
                x.teach(man, t, 10);
            }
        }
    }

    private static void done() {
        UnlearnedHand x = made(2, 0);
        Due.is("P30 turn 2", x.done(2, true), -2);
        Due.is("P30 turn -2", x.done(-2, true), -2);
        for (int i = 1; i <= 8; i++) {
            Due.is("P30 one more", x.done(i % 2, i % 3 == 0), i);
        }
        Due.is("P30 there are 8", x.done(0, true), -2);
        Due.is("P42 about(8)", x.about(8), 8);
        Due.is("P30 none any more", x.done(-1, false), 0);
        Due.is("P30 none any more, again", x.done(-1, true), 0);
        Due.is("P30 one", x.done(0, true), 1);
        Due.is("P30 not as it was", x.sets(false, -1), 2);
        x.done(-1, true);
        x.done(0, false);
        Due.is("P30 wrong, where one was right", x.sets(false, -1), 2);
        Due.is("P30 without it", x.sets(false, 1), 2);
    }

    private static void sets() {
        UnlearnedHand none = new UnlearnedHand();
        Due.is("P31 without turns", none.sets(false, -1), 1);
        Due.is("P31 the empty set", none.sets(true, 0), 0);
        UnlearnedHand x = made(4, 0);
        Due.is("P31 all sets", x.sets(false, -1), 16);
        Due.is("P31 the lowest first", x.sets(false, 5), 5);
        x.leads(0, 2);
        x.leads(1, 2);
        x.leads(2, 3);
        x.leads(3, 2);
        // 2 wants 0, 1 or 3; 3 wants 2.
        Due.is("P31 one that leads is enough", x.sets(false, -1), 4 + 1 + 3 + 3);
        Due.is("P31 not 4", x.sets(false, 4), 5);
        Due.is("P31 12: these two lead to one another", x.sets(false, 7), 12);
        Due.is("P31 13", x.sets(false, 8), 13);
        Due.is("P31 the last", x.sets(false, 10), 15);
        Due.is("P31 none such", x.sets(false, 11), -1);
        Due.is("P31 i -2", x.sets(false, -2), -1);
        x.done(2, true);
        x.done(0, false);
        Due.is("P31 with 2, without 0", x.sets(false, -1), 3);
        Due.is("P31 the first", x.sets(false, 0), 6);
        Due.is("P31 the second", x.sets(false, 1), 12);
        Due.is("P31 a shammer's", x.sets(true, -1), 7);
        Due.is("P31 a shammer's first", x.sets(true, 0), 5);
        x.done(0, true);
        Due.is("P31 right and wrong", x.sets(false, -1), 0);
        Due.is("P31 none such", x.sets(false, 0), -1);
        Due.is("P31 a shammer's", x.sets(true, -1), 4);
        UnlearnedHand y = made(2, 0);
        y.leads(1, 0);
        Due.is("P31 the first is led to", y.sets(false, -1), 3);
        Due.is("P31 not by itself", y.sets(false, 1), 2);
    }

    private static void shammed() {
        UnlearnedHand x = made(3, 2);
        has(x, 0, 3);
        Due.is("P32 none done: p", x.shammed(0, 4, 7, false), 2);
        Due.is("P32 none done: of 10", x.shammed(0, 4, 7, true), 5);
        x.done(0, false);
        // 4*7 by 4*7 + 6*1
        Due.is("P32 wrong: upper", x.shammed(0, 4, 7, false), 14);
        Due.is("P32 wrong: lower", x.shammed(0, 4, 7, true), 17);
        x.done(1, true);
        // 4*7*3 by 4*7*3 + 6*1*9
        Due.is("P32 right: upper", x.shammed(0, 4, 7, false), 14);
        Due.is("P32 right: lower", x.shammed(0, 4, 7, true), 23);
        x.done(2, false);
        Due.is("P32 what it hasn't doesn't count", x.shammed(0, 4, 7, true), 23);
        Due.is("P32 the other has none", x.shammed(1, 4, 7, true), 5);
        Due.is("P32 q 0: it can't sham", x.shammed(0, 4, 0, false), 0);
        Due.is("P32 q 0: by 1", x.shammed(0, 4, 0, true), 1);
        Due.is("P32 it can't be: upper", x.shammed(0, 10, 0, false), 0);
        Due.is("P32 it can't be: lower", x.shammed(0, 10, 0, true), 1);
        Due.is("P32 p 10", x.shammed(0, 10, 5, false), 1);
        Due.is("P32 p 10", x.shammed(0, 10, 5, true), 1);
        Due.is("P32 p 0", x.shammed(0, 0, 5, false), 0);
        Due.is("P32 p 0", x.shammed(0, 0, 5, true), 1);
        Due.is("P32 q 10", x.shammed(1, 4, 10, true), 5);
        Due.is("P32 p -1", x.shammed(0, -1, 5, true), -1);
        Due.is("P32 p 11", x.shammed(0, 11, 5, false), -1);
        Due.is("P32 q -1", x.shammed(0, 1, -1, false), -1);
        Due.is("P32 q 11", x.shammed(0, 1, 11, true), -1);
        Due.is("P32 man 2", x.shammed(2, 1, 1, true), -1);
        x.done(-1, false);
        for (int i = 0; i < 8; i++) {
            x.done(i % 2, true);
        }
        // 7*7^8 by 7*7^8 + 3*9^8
        Due.is("P32 eight: upper", x.shammed(0, 7, 3, false), 40353607L);
        Due.is("P32 eight: lower", x.shammed(0, 7, 3, true), 40353607L + 3L * 43046721L);
    }

    private static void halves() {
        UnlearnedHand x = made(4, 2);
        has(x, 0, 5);
        has(x, 1, 6);
        Due.is("P33 the first's", x.halves(0, 1, 0), 1);
        Due.is("P33 the second's", x.halves(0, 1, 1), 2);
        Due.is("P33 both", x.halves(0, 1, 2), 4);
        Due.is("P33 neither", x.halves(0, 1, 3), 8);
        Due.is("P33 the other way round", x.halves(1, 0, 0), 2);
        Due.is("P33 what 4", x.halves(0, 1, 4), -1);
        Due.is("P33 what -1", x.halves(0, 1, -1), -1);
        Due.is("P33 the same", x.halves(1, 1, 2), -1);
        Due.is("P33 man 2", x.halves(0, 2, 2), -1);
        Due.is("P33 man -1", x.halves(-1, 0, 2), -1);
    }

    /** Turns 0 to 5; 0 leads to 1, 1 to 2, 2 to 0, 4 to 5; smells {3}, {0}, {4, 3}, {5}. */
    private static UnlearnedHand smelling() {
        UnlearnedHand x = made(6, 0);
        x.leads(0, 1);
        x.leads(1, 2);
        x.leads(2, 0);
        x.leads(4, 5);
        x.smell(8);
        x.smell(1);
        x.smell(24);
        x.smell(32);
        return x;
    }

    private static void back() {
        UnlearnedHand x = smelling();
        Due.is("P34 none", x.back(0), 0);
        Due.is("P34 one", x.back(1), 8);
        Due.is("P34 in a ring", x.back(2), 7);
        Due.is("P34 two", x.back(6), 63);
        Due.is("P34 all", x.back(15), 63);
        Due.is("P34 one that isn't told", x.back(16), -1);
        Due.is("P34 back(-1)", x.back(-1), -1);
        UnlearnedHand y = made(8, 0);
        for (int i = 7; i > 0; i--) {
            y.leads(i, i - 1);
        }
        y.smell(128);
        Due.is("P34 the longest way", y.back(1), 255);
    }

    private static void fewSmells() {
        UnlearnedHand x = smelling();
        Due.is("P35 none wanted", x.fewSmells(0), 0);
        Due.is("P35 the lowest of like ones", x.fewSmells(8), 1);
        Due.is("P35 the lowest of like ones", x.fewSmells(32), 4);
        Due.is("P35 one of the ring", x.fewSmells(4), 2);
        Due.is("P35 two", x.fewSmells(9), 3);
        Due.is("P35 one rather than two", x.fewSmells(40), 4);
        Due.is("P35 a turn that isn't told", x.fewSmells(64), -1);
        Due.is("P35 fewSmells(-1)", x.fewSmells(-1), -1);
        UnlearnedHand y = made(2, 0);
        y.smell(1);
        Due.is("P35 none bring it back", y.fewSmells(2), -1);
        Due.is("P35 none bring both", y.fewSmells(3), -1);
    }

    private static void spies() {
        UnlearnedHand x = made(5, 4);
        has(x, 0, 1 + 2);
        has(x, 1, 4 + 8);
        has(x, 2, 1 + 2 + 4);
        has(x, 3, 4 + 8);
        Due.is("P38 none wanted", x.spies(0), 0);
        // 1 to 8 for both: {0, 1} has 3 + 7, {0, 3} the same, {2, 1} and {2, 3} have 6 + 7.
        Due.is("P38 the most worth, then the lowest", x.spies(15), 6);
        Due.is("P38 one", x.spies(3), 4);
        Due.is("P38 the lowest of like ones", x.spies(8), 2);
        Due.is("P38 nobody has it", x.spies(16), -1);
        Due.is("P38 a turn that isn't told", x.spies(32), -1);
        Due.is("P38 spies(-1)", x.spies(-1), -1);
        has(x, 0, 4 + 8 + 16);
        Due.is("P38 fewer ahead of more worth", x.spies(15), 1);
        UnlearnedHand y = made(3, 2);
        has(y, 0, 1 + 4);
        has(y, 1, 1 + 2);
        Due.is("P38 the worth of all that each has", y.spies(1), 1);
        has(y, 1, 4);
        Due.is("P38 the worth of all that each has", y.spies(1), 2);
        UnlearnedHand nobody = new UnlearnedHand();
        Due.is("P38 nobody", nobody.spies(0), 0);
        nobody.turn(1);
        Due.is("P38 nobody has it", nobody.spies(1), -1);
    }

    private static void sold() {
        UnlearnedHand x = made(5, 3);
        has(x, 0, 1 + 2 + 4);
        has(x, 1, 4 + 8);
        has(x, 2, 1 + 16);
        Due.is("P39 one", x.sold(1), 7);
        Due.is("P39 two", x.sold(2), 13);
        Due.is("P39 three", x.sold(3), 15);
        Due.is("P39 six at most", x.sold(6), 15);
        Due.is("P39 n 0", x.sold(0), -1);
        Due.is("P39 n 7", x.sold(7), -1);
        Due.is("P39 nobody", new UnlearnedHand().sold(1), 0);
    }
}
