/** Every call with the wildest numbers, on an object without anything and on a full one: none may throw or hang. */
public final class WildTest {
    private static final int[] WILD = {Integer.MIN_VALUE, Integer.MIN_VALUE + 1, -1000, -3, -2, -1, 0, 1, 2, 5, 6, 7, 8, 9, 30, 31, 32, 33, 60, 63, 64, 99, 100, 255, 256, 300, 999, 1000, 9999, 65536, Integer.MAX_VALUE - 1, Integer.MAX_VALUE};

    public static void main(String[] args) {
        calls(new UnlearnedHand());
        calls(full());
        Due.is("all calls came back", 1, 1);
        Due.end();
    }

    private static UnlearnedHand full() {
        UnlearnedHand x = new UnlearnedHand();
        for (int i = 0; i < 8; i++) {
            x.turn(99);
            x.man(9);
        }
        for (int i = 0; i < 8; i++) {
            x.smell(1 << i);
            for (int j = 0; j < 8; j++) {
                x.leads(i, j);
                x.teach(i % 6, j, 99);
            }
            x.done(i, true);
        }
        Due.text(x, "fades root(" + "9999*".repeat(40) + "9999) - ((((((((day))))))));");
        Due.text(x, "pushes much*9999*9999*9999; drops -right*9999; has " + "not ".repeat(8) + "1/(right-right)=0;");
        x.by(1);
        return x;
    }

    private static void calls(UnlearnedHand x) {
        for (int a : WILD) {
            one(x, a);
            for (int b : WILD) {
                two(x, a, b);
                for (int c : WILD) {
                    three(x, a, b, c);
                }
            }
        }
        for (int n : new int[] {-1, 0, 1, 4, 5, Integer.MAX_VALUE, Integer.MIN_VALUE}) {
            for (int b : WILD) {
                for (int i : WILD) {
                    x.wrongs(0, n, 9, b, i);
                    x.wrongs(b, n, i, 0, 0);
                }
            }
        }
    }

    private static void one(UnlearnedHand x, int a) {
        x.undo();
        x.allow(a);
        x.drink(a);
        x.tried(a);
        x.night(a);
        x.end(a);
        x.fault(a);
        x.text();
        x.by(a);
        x.played(a);
        x.back(a);
        x.fewSmells(a);
        x.spies(a);
        x.sold(a);
        x.about(a);
        x.image();
        x.again();
        x.turn(a);
        x.man(a);
        x.smell(a);
        x.feed(a, a, a, a, a);
    }

    private static void two(UnlearnedHand x, int a, int b) {
        x.leads(a, b);
        x.sing(a, b, true);
        x.sing(a, b, false);
        x.tie(a, b);
        x.smelt(a, b);
        x.winters(a, b);
        x.of(a, b);
        x.ofTurn(a, b);
        x.foretold(a, b);
        x.free(a, b);
        x.lasts(a, b);
        x.done(a, (b & 1) == 1);
        x.sets((a & 1) == 1, b);
        x.told(a, b);
    }

    private static void three(UnlearnedHand x, int a, int b, int c) {
        x.teach(a, b, c);
        x.mislead(a, b, c);
        x.hand(a, b, c);
        x.shammed(a, b, c, true);
        x.shammed(a, b, c, false);
        x.halves(a, b, c);
        x.trial(a, b, c);
    }
}
