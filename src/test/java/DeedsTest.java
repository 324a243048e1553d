/** Promises 7 to 13 and 24: what is done to men by hand. */
public final class DeedsTest {
    public static void main(String[] args) {
        teach();
        mislead();
        drink();
        sing();
        tie();
        smelt();
        tried();
        hand();
        Due.end();
    }

    /** Three turns (0 leads to 1, 1 to 2), two men. */
    private static UnlearnedHand made() {
        UnlearnedHand x = new UnlearnedHand();
        x.turn(3);
        x.turn(5);
        x.turn(7);
        x.leads(0, 1);
        x.leads(1, 2);
        x.man(4);
        x.man(0);
        return x;
    }

    private static void freed(UnlearnedHand x, int man) {
        x.allow(8);
        x.tried(man);
        x.allow(0);
    }

    private static void teach() {
        UnlearnedHand x = made();
        Due.is("P7 teach", x.teach(0, 1, 60), 60);
        Due.is("P7 teach up to 99", x.teach(0, 1, 60), 99);
        Due.is("P7 best too", x.hand(0, 1, 2), 99);
        Due.is("P7 the other man's", x.hand(1, 1, 0), 0);
        Due.is("P7 steps", x.about(7), 2);
        Due.is("P7 k 0", x.teach(0, 1, 0), -1);
        Due.is("P7 k 100", x.teach(0, 1, 100), -1);
        Due.is("P7 man 2", x.teach(2, 1, 1), -1);
        Due.is("P7 man -1", x.teach(-1, 1, 1), -1);
        Due.is("P7 turn 3", x.teach(0, 3, 1), -1);
        Due.is("P7 turn -1", x.teach(0, -1, 1), -1);
        Due.is("P7 k 99", x.teach(1, 2, 99), 99);
        x.tie(0, 2);
        Due.is("P7 tied at that", x.teach(0, 2, 1), -1);
        Due.is("P7 tied at another", x.teach(0, 0, 1), 1);
        freed(x, 0);
        int steps = x.about(7);
        Due.is("P7 a free one", x.teach(0, 0, 1), -1);
        Due.is("P7 no step for what can't be", x.about(7), steps);
    }

    private static void mislead() {
        UnlearnedHand x = made();
        x.teach(0, 0, 50);
        Due.is("P8 half of k, cut", x.mislead(0, 0, 9), 46);
        Due.is("P8 wrong", x.hand(0, 0, 1), 9);
        Due.is("P8 best stays", x.hand(0, 0, 2), 50);
        Due.is("P8 wrong up to 99", x.mislead(0, 0, 99), 0);
        Due.is("P8 wrong is 99", x.hand(0, 0, 1), 99);
        Due.is("P8 k 1 pushes nothing", x.mislead(1, 0, 1), 0);
        x.teach(0, 1, 20);
        x.sing(0, 1, true);
        Due.is("P8 sung: not pushed", x.mislead(0, 1, 30), 20);
        Due.is("P8 sung: wrong all the same", x.hand(0, 1, 1), 30);
        x.tie(0, 2);
        Due.is("P8 tied doesn't matter", x.mislead(0, 2, 3), 0);
        Due.is("P8 k 0", x.mislead(0, 0, 0), -1);
        Due.is("P8 k 100", x.mislead(0, 0, 100), -1);
        Due.is("P8 man 2", x.mislead(2, 0, 5), -1);
        Due.is("P8 turn 3", x.mislead(0, 3, 5), -1);
        freed(x, 0);
        Due.is("P8 a free one", x.mislead(0, 0, 5), -1);
        Due.text(x, "pushes wrong - much + pride;");
        x.by(0);
        x.teach(1, 2, 50);
        x.mislead(1, 2, 10);
        Due.is("P8 pushes by the wrong that is more already", x.hand(1, 2, 0), 50);
        x.mislead(1, 2, 10);
        Due.is("P8 pushes by the wrong of both", x.hand(1, 2, 0), 40);
        Due.text(x, "pushes -5;");
        x.by(1);
        Due.is("P8 pushes 0 at least", x.mislead(1, 2, 1), 40);
        Due.text(x, "pushes 100;");
        x.by(2);
        x.teach(1, 2, 99);
        Due.is("P8 pushes 99 at most", x.mislead(1, 2, 1), 0);
    }

    private static void drink() {
        UnlearnedHand x = made();
        x.teach(0, 0, 2);
        x.teach(0, 1, 10);
        x.teach(0, 2, 10);
        x.teach(1, 1, 10);
        x.sing(0, 2, true);
        Due.is("P9 drink", x.drink(0), true);
        Due.is("P9 not below 0", x.hand(0, 0, 0), 0);
        Due.is("P9 less by 3", x.hand(0, 1, 0), 7);
        Due.is("P9 sung stays", x.hand(0, 2, 0), 10);
        Due.is("P9 the other man's", x.hand(1, 1, 0), 10);
        Due.is("P9 best stays", x.hand(0, 1, 2), 10);
        Due.is("P9 man 2", x.drink(2), false);
        Due.is("P9 man -1", x.drink(-1), false);
        freed(x, 0);
        Due.is("P9 a free one", x.drink(0), false);
        UnlearnedHand none = new UnlearnedHand();
        Due.is("P9 nobody", none.drink(0), false);
        none.man(1);
        Due.is("P9 without turns", none.drink(0), true);
        Due.is("P9 is a step", none.about(7), 1);
    }

    private static void sing() {
        UnlearnedHand x = made();
        Due.is("P10 not sung at first", x.sing(0, 1, false), false);
        Due.is("P10 sing", x.sing(0, 1, true), true);
        Due.is("P10 it is so", x.sing(0, 1, true), false);
        Due.is("P10 sung", x.of(0, 2), 2);
        Due.is("P10 the other man's", x.of(1, 2), 0);
        Due.is("P10 sing(0, 2)", x.sing(0, 2, true), true);
        Due.is("P10 not any more", x.sing(0, 1, false), true);
        Due.is("P10 sung", x.of(0, 2), 4);
        Due.is("P10 steps", x.about(7), 3);
        Due.is("P10 man 2", x.sing(2, 1, true), false);
        Due.is("P10 turn 3", x.sing(0, 3, true), false);
        Due.is("P10 turn -1", x.sing(0, -1, true), false);
        freed(x, 0);
        Due.is("P10 a free one", x.sing(0, 2, false), false);
    }

    private static void tie() {
        UnlearnedHand x = made();
        Due.is("P11 at none already", x.tie(0, -1), false);
        Due.is("P11 tie", x.tie(0, 2), true);
        Due.is("P11 it is so", x.tie(0, 2), false);
        Due.is("P11 tied", x.of(0, 3), 2);
        Due.is("P11 at another", x.tie(0, 0), true);
        Due.is("P11 tied", x.of(0, 3), 0);
        Due.is("P11 turn 3", x.tie(0, 3), false);
        Due.is("P11 turn -2", x.tie(0, -2), false);
        Due.is("P11 man 2", x.tie(2, 0), false);
        Due.is("P11 man 2 at none", x.tie(2, -1), false);
        Due.is("P11 at none", x.tie(0, -1), true);
        Due.is("P11 tied", x.of(0, 3), -1);
        Due.is("P11 steps", x.about(7), 3);
        freed(x, 0);
        Due.is("P11 a free one", x.tie(0, 1), false);
    }

    private static void smelt() {
        UnlearnedHand x = made();
        x.smell(2);
        x.smell(5);
        x.teach(0, 0, 10);
        x.teach(0, 1, 20);
        x.teach(0, 2, 30);
        x.mislead(0, 0, 6);
        x.mislead(0, 1, 8);
        x.mislead(0, 2, 10);
        x.sing(0, 2, true);
        x.tie(0, 1);
        Due.is("P12 what comes back", x.smelt(0, 0), 6);
        Due.is("P12 0 doesn't", x.hand(0, 0, 0), 7);
        Due.is("P12 1 does, though tied", x.hand(0, 1, 0), 20);
        Due.is("P12 2 does, led to and sung", x.hand(0, 2, 0), 30);
        Due.is("P12 wrongs stay", x.hand(0, 1, 1), 8);
        Due.is("P12 all, by two leads", x.smelt(0, 1), 7);
        Due.is("P12 0 does", x.hand(0, 0, 0), 10);
        Due.is("P12 whether it was best or not", x.smelt(1, 1), 7);
        Due.is("P12 smell 2", x.smelt(0, 2), -1);
        Due.is("P12 smell -1", x.smelt(0, -1), -1);
        Due.is("P12 man 2", x.smelt(2, 0), -1);
        freed(x, 0);
        Due.is("P12 a free one", x.smelt(0, 0), -1);
    }

    private static void tried() {
        UnlearnedHand x = made();
        x.teach(0, 0, 10);
        x.teach(0, 1, 10);
        Due.is("P13 has two", x.tried(0), 2);
        Due.is("P13 not free", x.of(0, 4), 0);
        Due.is("P13 a step all the same", x.about(7), 3);
        x.allow(1);
        Due.is("P13 one too many", x.tried(0), 2);
        Due.is("P13 not free", x.of(0, 4), 0);
        x.allow(2);
        Due.is("P13 just enough", x.tried(0), 2);
        Due.is("P13 free", x.of(0, 4), 1);
        Due.is("P13 a free one", x.tried(0), -1);
        x.allow(0);
        Due.is("P13 none at all", x.tried(1), 0);
        Due.is("P13 free", x.of(1, 4), 1);
        Due.is("P13 man 2", x.tried(2), -1);
        Due.is("P13 man -1", x.tried(-1), -1);
    }

    private static void hand() {
        UnlearnedHand x = made();
        Due.text(x, "fades day + 5*sung + 20*tied - wrong; drops right/2 + turn + worth;");
        x.by(0);
        x.teach(0, 1, 12);
        x.mislead(0, 1, 4);
        Due.is("P24 right", x.hand(0, 1, 0), 10);
        Due.is("P24 wrong", x.hand(0, 1, 1), 4);
        Due.is("P24 best", x.hand(0, 1, 2), 12);
        Due.is("P24 fades", x.hand(0, 1, 3), -4);
        Due.is("P24 drops", x.hand(0, 1, 4), 11);
        x.sing(0, 1, true);
        Due.is("P24 fades, sung", x.hand(0, 1, 3), 1);
        x.tie(0, 1);
        Due.is("P24 fades, sung and tied", x.hand(0, 1, 3), 21);
        x.mislead(0, 0, 99);
        Due.is("P24 fades -9 at least", x.hand(0, 0, 3), -9);
        x.by(-1);
        Due.is("P24 fades without", x.hand(0, 1, 3), 1);
        Due.is("P24 drops without", x.hand(0, 1, 4), 0);
        Due.text(x, "fades 9999; drops 100;");
        x.by(1);
        Due.is("P24 fades 99 at most", x.hand(0, 1, 3), 99);
        Due.is("P24 drops 99 at most", x.hand(0, 1, 4), 99);
        Due.text(x, "drops 0-1;");
        x.by(2);
        Due.is("P24 drops 0 at least", x.hand(0, 1, 4), 0);
        Due.is("P24 what 5", x.hand(0, 1, 5), -100);
        Due.is("P24 what -1", x.hand(0, 1, -1), -100);
        Due.is("P24 man 2", x.hand(2, 1, 0), -100);
        Due.is("P24 turn 3", x.hand(0, 3, 0), -100);
        Due.is("P24 turn -1", x.hand(0, -1, 0), -100);
    }
}
