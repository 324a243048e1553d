/** The edges of promise 22: steps that are taken back. */
public final class StepsEdgesTest {
    public static void main(String[] args) {
        none();
        eachKind();
        whatIsNoStep();
        thirty();
        ring();
        refusedAtThirty();
        menToldSince();
        turnsToldSince();
        tiedAtATurnToldSince();
        whatStays();
        Due.end();
    }

    private static void none() {
        Edge.stays("P22 NONE: there is none, of a new object", Made::fresh, UnlearnedHand::undo, -1);
        Edge.stays("P22 NONE: there is none yet", Made::plain, UnlearnedHand::undo, -1);
        Edge.stays("P22 NONE: all are taken back", () -> taught(1, 1), UnlearnedHand::undo, -1);
        Edge.taken("P22 how many can be yet: 0 behind the last", () -> taught(1, 0), UnlearnedHand::undo, 0, x -> x.about(7), 0);
        Edge.taken("P22 how many can be yet: 1", () -> taught(2, 0), UnlearnedHand::undo, 1, x -> x.about(7), 1);
    }

    /** Taught by 1 so often, and so many steps taken back. */
    private static UnlearnedHand taught(int steps, int back) {
        UnlearnedHand x = Made.plain();
        for (int i = 0; i < steps; i++) {
            x.teach(0, 0, 1);
        }
        for (int i = 0; i < back; i++) {
            x.undo();
        }
        return x;
    }

    /** A deed is one step, and behind it is all as ahead. */
    private static void oneStep(String deed, Edge.Call call) {
        Edge.taken("P22 a STEP: " + deed, Made::lived, x -> call.on(x) - call.on(Made.lived()), 0, x -> x.about(7), Made.lived().about(7) + 1);
        UnlearnedHand x = Made.lived();
        UnlearnedHand y = Made.lived();
        call.on(x);
        Due.is("P22 taken back: " + deed, x.undo(), y.about(7));
        Edge.sameAll("P22 all is as ahead of it: " + deed, x, y);
    }

    private static void eachKind() {
        oneStep("TAUGHT", x -> x.teach(0, 0, 99));
        oneStep("MISLED", x -> x.mislead(1, 0, 99));
        oneStep("DRUNK", x -> x.drink(0) ? 1 : 0);
        oneStep("SUNG", x -> x.sing(0, 0, true) ? 1 : 0);
        oneStep("not SUNG any more", x -> x.sing(0, 1, false) ? 1 : 0);
        oneStep("TIED", x -> x.tie(1, 0) ? 1 : 0);
        oneStep("TIED at another", x -> x.tie(0, 0) ? 1 : 0);
        oneStep("TIED at none", x -> x.tie(0, -1) ? 1 : 0);
        oneStep("SMELT", x -> x.smelt(1, 1));
        oneStep("TRIED", x -> x.tried(0));
        oneStep("a NIGHT", x -> x.night(1));
        oneStep("WINTERS", x -> x.winters(77, 30));
        UnlearnedHand x = Made.lived();
        x.allow(8);
        UnlearnedHand y = Made.lived();
        y.allow(8);
        x.tried(0);
        x.tried(1);
        Due.is("FREE", x.of(0, 4) + x.of(1, 4), 2);
        x.undo();
        x.undo();
        Edge.sameAll("P22 FREE is as ahead of it", x, y);
    }

    private static void whatIsNoStep() {
        UnlearnedHand x = Made.lived();
        int steps = x.about(7);
        x.turn(1);
        x.leads(1, 0);
        x.man(1);
        x.smell(1);
        x.allow(2);
        x.done(0, false);
        x.done(-1, false);
        x.text();
        x.by(1);
        x.feed(0, 0, 0, 0, 0);
        x.end(1);
        x.image();
        x.foretold(60, 0);
        x.free(60, 0);
        x.lasts(0, 0);
        x.wrongs(0, 4, 50, 0, -1);
        Due.is("P22 telling and asking are no STEPS", x.about(7), steps);
        x.undo();
        Due.is("P22 allowed isn't taken back", x.about(9), 2);
        Due.is("P22 THE TEXT isn't taken back", x.about(6), 1);
        Due.is("P22 TEXTS aren't taken back", x.about(5), 2);
        Due.is("P22 TURNS aren't taken back", x.about(0), 4);
        Due.is("P22 MEN aren't taken back", x.about(1), 3);
        Due.is("P22 SMELLS aren't taken back", x.about(2), 3);
        Due.is("P22 LEADS aren't taken back", x.ofTurn(1, 1), 5);
        Due.is("P22 the tape isn't taken back", x.about(10), 1);
        x.done(2, true);
        x.undo();
        Due.is("P22 DONE isn't taken back", x.about(8), 1);
        x.again();
        Due.is("P22 THE IMAGE isn't taken back", x.about(7), steps);
    }

    private static void thirty() {
        for (int steps : new int[] {1, 29, 30, 31, 32, 59, 60, 61, 95}) {
            UnlearnedHand x = taught(steps, 0);
            int can = Math.min(steps, 30);
            String why = "P22 the latest 30 can be taken back, of " + steps;
            Due.is(why + ": how many", x.about(7), can);
            for (int i = can - 1; i >= 0; i--) {
                Due.is(why, x.undo(), i);
                Due.is(why + ", the latest first", x.hand(0, 0, 0), steps - can + i);
            }
            Due.is(why + ": NONE behind", x.undo(), -1);
            Due.is(why + ": the others stay", x.hand(0, 0, 0), steps - can);
        }
    }

    private static void ring() {
        for (int back = 1; back <= 30; back++) {
            UnlearnedHand x = taught(45, back);
            for (int i = 0; i < back - 1; i++) {
                x.teach(0, 0, 2);
            }
            Due.is("P22 one less than were taken back: " + back, x.about(7), 29);
            x.mislead(0, 0, 99);
            Due.is("P22 as many as were taken back: " + back, x.about(7), 30);
            x.drink(0);
            Due.is("P22 one more than were taken back: " + back, x.about(7), 30);
            x.undo();
            x.undo();
            Due.is("P22 the latest first, behind: " + back, x.hand(0, 0, 0), 45 - back + 2 * (back - 1));
            for (int i = 0; i < back - 1; i++) {
                x.undo();
            }
            // Behind 30 taken back, the first of the 31 done since is pushed out.
            int oldest = back == 30 ? 17 : 16;
            Due.is("P22 then the older ones: " + back, x.hand(0, 0, 0), Math.max(oldest, 45 - back));
            for (int i = 29 - back; i > 0; i--) {
                Due.is("P22 how many can be yet: " + back, x.undo(), i - 1);
            }
            Due.is("P22 the oldest of 30: " + back, x.hand(0, 0, 0), oldest);
            Due.is("P22 NONE behind: " + back, x.undo(), -1);
        }
    }

    /** Refused calls may not push out the oldest step either. */
    private static void refusedAtThirty() {
        Edge.stays("P7 a refused call is no STEP, with 30 of them", () -> taught(40, 0), x -> x.teach(0, 0, 100), -1);
        Edge.stays("P8 a refused call is no STEP, with 30 of them", () -> taught(40, 0), x -> x.mislead(0, 0, 0), -1);
        Edge.denied("P9 a refused call is no STEP, with 30 of them", () -> taught(40, 0), x -> x.drink(2));
        Edge.denied("P10 a refused call is no STEP, with 30 of them", () -> taught(40, 0), x -> x.sing(0, 0, false));
        Edge.denied("P11 a refused call is no STEP, with 30 of them", () -> taught(40, 0), x -> x.tie(0, -1));
        Edge.stays("P12 a refused call is no STEP, with 30 of them", () -> taught(40, 0), x -> x.smelt(0, 2), -1);
        Edge.stays("P13 a refused call is no STEP, with 30 of them", () -> taught(40, 0), x -> x.tried(2), -1);
        Edge.stays("P14 a refused call is no STEP, with 30 of them", () -> taught(40, 0), x -> x.night(61), -1);
        Edge.stays("P15 a refused call is no STEP, with 30 of them", () -> taught(40, 0), x -> x.winters(0, 31), -1);
        UnlearnedHand x = taught(40, 0);
        for (int i = 0; i < 29; i++) {
            x.undo();
        }
        x.night(0);
        x.winters(-1, 1);
        x.teach(0, 0, 0);
        Due.is("P22 the oldest of 30 is there yet", x.undo(), 0);
        Due.is("P22 and it is that of ten", x.hand(0, 0, 0), 10);
    }

    private static void menToldSince() {
        UnlearnedHand x = Made.plain();
        x.teach(0, 0, 5);
        int man = x.man(7);
        x.teach(man, 0, 40);
        x.mislead(man, 1, 40);
        x.sing(man, 2, true);
        x.tie(man, 0);
        x.allow(8);
        x.tried(man);
        for (int i = 5; i >= 0; i--) {
            Due.is("P22 how many can be yet", x.undo(), i);
        }
        Due.is("P22 MEN told since are there", x.about(1), 3);
        Due.is("P22 all but PRIDE: PRIDE stays", x.of(man, 0), 7);
        for (int turn = 0; turn < 3; turn++) {
            for (int what = 0; what < 3; what++) {
                Due.is("P22 MEN told since are as at first: " + turn + ", " + what, x.hand(man, turn, what), 0);
            }
        }
        Due.is("P22 MEN told since are as at first: SUNG", x.of(man, 2), 0);
        Due.is("P22 MEN told since are as at first: TIED", x.of(man, 3), -1);
        Due.is("P22 MEN told since are as at first: FREE", x.of(man, 4), 0);
    }

    /** By nights that teach, and a step from ahead of the telling. */
    private static void turnsToldSince() {
        UnlearnedHand x = Made.ruled("fades -9;");
        x.night(1);
        int turn = x.turn(50);
        x.leads(2, turn);
        x.night(2);
        x.teach(0, turn, 5);
        x.mislead(1, turn, 40);
        x.sing(0, turn, true);
        Due.is("taught", x.hand(0, turn, 0), 23);
        for (int i = 5; i >= 0; i--) {
            Due.is("P22 how many can be yet", x.undo(), i);
        }
        Due.is("P22 TURNS told since are there", x.about(0), 4);
        Due.is("P22 their WORTH stays", x.ofTurn(turn, 0), 50);
        Due.is("P22 their LEADS stay", x.ofTurn(2, 1), 8);
        for (int man = 0; man < 2; man++) {
            for (int what = 0; what < 3; what++) {
                Due.is("P22 of TURNS told since all have RIGHT, WRONG, BEST 0: " + man + ", " + what, x.hand(man, turn, what), 0);
            }
            Due.is("P22 of TURNS told since all are unsung", x.of(man, 2), 0);
        }
        Due.is("P22 DAY is as ahead of it", x.about(3), 0);
    }

    private static void tiedAtATurnToldSince() {
        UnlearnedHand x = Made.plain();
        x.tie(0, 1);
        x.drink(0);
        int turn = x.turn(50);
        x.tie(0, turn);
        x.tie(1, turn);
        x.undo();
        x.undo();
        Due.is("P22 TIED as ahead of it: at another", x.of(0, 3), 1);
        Due.is("P22 TIED as ahead of it: at none", x.of(1, 3), -1);
        x.undo();
        x.undo();
        Due.is("P22 TIED as ahead of it: at none", x.of(0, 3), -1);
    }

    private static void whatStays() {
        UnlearnedHand x = Made.plain();
        x.teach(0, 0, 5);
        x.winters(3, 9);
        int behind = x.about(4);
        x.teach(0, 0, 5);
        x.undo();
        Due.is("P22 X is as ahead of it: as WINTERS left it", x.about(4), behind);
        x.undo();
        Due.is("P22 X is as ahead of it: as at first", x.about(4), 73);
        Due.is("P22 and the teaching stays", x.hand(0, 0, 0), 5);
    }
}
