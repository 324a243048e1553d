/** The edges of promise 21: texts that are played. */
public final class PlayedEdgesTest {
    public static void main(String[] args) {
        others();
        asByHand();
        thatCannot();
        cannotBehindOthers();
        sungTheOtherWayRound();
        nights();
        steps();
        lawsAmongThem();
        itselfRuling();
        most();
        Due.end();
    }

    private static void others() {
        for (int text : Edge.beyond(0, 0)) {
            Edge.stays("P21 -2 for others: TEXT " + text, Made::lived, x -> x.played(text), -2);
        }
        for (int text : Edge.beyond(0, 3)) {
            Edge.stays("P21 -2 for others, of four: TEXT " + text, Made::allTexts, x -> x.played(text), -2);
        }
        Edge.stays("P21 -2: NONE is no TEXT, though none rules", Made::fresh, x -> x.played(-1), -2);
        Edge.stays("P21 -2: there is no TEXT", Made::fresh, x -> x.played(0), -2);
        Edge.stays("P21 NONE: all is done of laws alone", Made::lived, x -> x.played(0), -1);
        Edge.stays("P21 NONE: the last of four, laws alone", Made::allTexts, x -> x.played(3), -1);
    }

    private static UnlearnedHand with(String text) {
        UnlearnedHand x = Made.lived();
        x.end(0);
        Due.is("the text of a test: " + text, Due.text(x, text), 1);
        return x;
    }

    /** A clause as it is played, and the same by hand. */
    private static void same(String clause, Edge.Call call) {
        UnlearnedHand x = with(clause);
        UnlearnedHand y = with(clause);
        Due.is("P21 all is done: " + clause, x.played(1), -1);
        Due.is("by hand: " + clause, call.on(y) >= 0, true);
        Edge.sameAll("P21 as by hand: " + clause, x, y);
    }

    private static void asByHand() {
        same("teach 1 in 0 by 1;", x -> x.teach(1, 0, 1));
        same("teach 0 in 1 by 99;", x -> x.teach(0, 1, 99));
        same("mislead 1 in 0 by 1;", x -> x.mislead(1, 0, 1));
        same("mislead 0 in 1 by 99;", x -> x.mislead(0, 1, 99));
        same("drink 1;", x -> x.drink(1) ? 1 : -5);
        same("sing 1 of 2;", x -> x.sing(1, 2, true) ? 1 : -5);
        same("sing 0 of 1;", x -> x.sing(0, 1, false) ? 1 : -5);
        same("tie 1 at 2;", x -> x.tie(1, 2) ? 1 : -5);
        same("tie 0 at 1;", x -> x.tie(0, 1) ? 1 : -5);
        same("smell 1 by 0;", x -> x.smelt(0, 1));
        same("smell 0 by 1;", x -> x.smelt(1, 0));
        same("try 0;", x -> x.tried(0));
        same("try 1;", x -> x.tried(1));
        same("night 1;", x -> x.night(1));
        same("night 60;", x -> x.night(60));
        same("night 5; night 5;", x -> x.night(10));
        same("mislead 0 in 0 by 9; teach 0 in 0 by 9;", x -> x.mislead(0, 0, 9) + x.teach(0, 0, 9));
        same("teach 0 in 0 by 99; mislead 0 in 0 by 9;", x -> x.teach(0, 0, 99) + x.mislead(0, 0, 9));
    }

    private static void cannot(String why, Edge.Maker maker, String clause) {
        Edge.Maker told = () -> {
            UnlearnedHand x = maker.make();
            x.end(0);
            Due.is("the text of a test: " + clause, Due.text(x, clause + " teach 0 in 1 by 99; night 1;"), x.about(5) - 1);
            return x;
        };
        Edge.stays("P21 the number of the CLAUSE that can't be: " + why + ": " + clause, told, x -> x.played(x.about(5) - 1), 0);
    }

    private static void thatCannot() {
        String[] noMan = {"teach 2 in 0 by 5;", "mislead 2 in 0 by 5;", "drink 2;", "sing 2 of 0;", "tie 2 at 0;", "smell 0 by 2;", "try 2;"};
        for (String clause : noMan) {
            cannot("a MAN that isn't told", Made::lived, clause);
            cannot("the greatest MAN", Made::lived, clause.startsWith("smell") ? "smell 0 by 5;" : clause.replaceFirst("2", "5"));
        }
        String[] noTurn = {"teach 0 in 3 by 5;", "mislead 0 in 3 by 5;", "sing 0 of 3;", "tie 0 at 3;"};
        for (String clause : noTurn) {
            cannot("a TURN that isn't told", Made::lived, clause);
            cannot("the greatest TURN", Made::lived, clause.replace('3', '7'));
        }
        cannot("a SMELL that isn't told", Made::lived, "smell 2 by 0;");
        cannot("the greatest SMELL", Made::lived, "smell 5 by 0;");
        cannot("TIED at that", Made::lived, "teach 0 in 2 by 5;");
        cannot("TIED, and it is so", Made::lived, "tie 0 at 2;");
        String[] free = {"teach 1 in 0 by 5;", "mislead 1 in 0 by 5;", "drink 1;", "sing 1 of 0;", "tie 1 at 0;", "smell 1 by 1;", "try 1;"};
        for (String clause : free) {
            cannot("a FREE one", Made::freed, clause);
        }
        for (int n : new int[] {1, 2, 60}) {
            cannot("a NIGHT beyond 999", Made::lastDay, "night " + n + ";");
        }
        UnlearnedHand x = new UnlearnedHand();
        Due.text(x, "drink 0;");
        Due.is("P21 that can't be: nobody is there", x.played(0), 0);
        Due.is("P21 no STEP", x.about(7), 0);
    }

    private static void cannotBehindOthers() {
        UnlearnedHand x = Made.plain();
        Due.text(x, "teach 0 in 0 by 5; teach 0 in 1 by 6; tie 0 at 0; teach 0 in 0 by 7; teach 0 in 2 by 8; night 1;");
        Due.is("P21 one that can't be ends it: its number (from 0)", x.played(0), 3);
        Due.is("P21 what was done stays", x.hand(0, 0, 0), 5);
        Due.is("P21 what was done stays", x.hand(0, 1, 0), 6);
        Due.is("P21 what is behind isn't done", x.hand(0, 2, 0), 0);
        Due.is("P21 what is behind isn't done: no NIGHT", x.about(3), 0);
        Due.is("P21 STEPS of what was done", x.about(7), 3);
        x.undo();
        Due.is("P21 one step back: not TIED", x.of(0, 3), -1);
        Due.is("P21 now it can be: all is done", x.played(0), 3);
        UnlearnedHand y = Made.plain();
        Due.text(y, "try 0;".repeat(23) + "try 1;");
        Due.is("P21 FREE by the first: the second can't be", y.played(0), 1);
        UnlearnedHand z = Made.plain();
        Due.text(z, "drink 0;".repeat(23) + "drink 2;");
        Due.is("P21 the last of 24 can't be", z.played(0), 23);
        Due.is("P21 23 are done", z.about(7), 23);
    }

    private static void sungTheOtherWayRound() {
        UnlearnedHand x = Made.turnsAndMen(8, 6);
        Due.text(x, "sing 5 of 7; sing 0 of 5;");
        Due.is("P21 (MAN, TURN: the other way round)", x.played(0), -1);
        Due.is("P21 SUNG that it wasn't", x.of(5, 2), 128);
        Due.is("P21 SUNG that it wasn't", x.of(0, 2), 32);
        Due.is("P21 once more", x.played(0), -1);
        Due.is("P21 it isn't any more", x.of(5, 2), 0);
        Due.is("P21 it isn't any more", x.of(0, 2), 0);
        Due.is("P21 each is a STEP", x.about(7), 4);
        Due.text(x, "sing 0 of 0; sing 0 of 0; sing 0 of 0;");
        Due.is("P21 thrice in a TEXT", x.played(1), -1);
        Due.is("P21 thrice is once", x.of(0, 2), 1);
    }

    private static UnlearnedHand onDay(int day, String text) {
        UnlearnedHand x = Made.onDay(day);
        Due.text(x, text);
        return x;
    }

    private static void nights() {
        Edge.taken("P21 of so many NIGHTS all: 60 and 939", () -> onDay(939, "night 60; drink 0;"), x -> x.played(0), -1, x -> x.about(3), 999);
        Edge.taken("P21 those that can are done: 59 of 60", () -> onDay(940, "night 60; drink 0;"), x -> x.played(0), 0, x -> x.about(3), 999);
        Edge.taken("P21 those that can are done: one of two", () -> onDay(998, "night 2; drink 0;"), x -> x.played(0), 0, x -> x.about(3), 999);
        Edge.taken("P21 one of one", () -> onDay(998, "night 1; sing 0 of 0;"), x -> x.played(0), -1, x -> x.of(0, 2), 3);
        Edge.taken("P21 none can", () -> onDay(999, "night 1; sing 0 of 0;"), x -> x.played(0), 0, x -> x.of(0, 2), 2);
        Edge.taken("P21 the second can't", () -> onDay(998, "night 1; sing 0 of 0; night 1; drink 0;"), x -> x.played(0), 2, x -> x.of(0, 2), 3);
        Edge.taken("P21 TRIED on DAY 30", () -> onDay(28, "night 2;"), x -> x.allow(1) ? x.played(0) : -5, -1, x -> x.of(0, 4) + x.of(1, 4), 2);
        UnlearnedHand x = onDay(997, "night 60;");
        x.teach(0, 0, 50);
        Due.is("P21 those that can are done", x.played(0), 0);
        Due.is("P21 two fade", x.hand(0, 0, 0), 48);
        Due.is("P22 each is a STEP", x.undo(), 29);
        Due.is("P22 one back", x.about(3), 998);
        x.undo();
        Due.is("P22 two back", x.about(3), 997);
        Due.is("P22 two back", x.hand(0, 0, 0), 50);
    }

    private static void steps() {
        UnlearnedHand x = Made.plain();
        Due.text(x, "teach 0 in 0 by 5; fades 2; drink 0; night 4; try 1;");
        Due.is("P21 all is done", x.played(0), -1);
        Due.is("P21 STEPS as by hand: laws are none", x.about(7), 7);
        UnlearnedHand y = Made.plain();
        Due.text(y, "night 31; teach 0 in 0 by 5;");
        Due.is("P21 all is done", y.played(0), 1);
        Due.is("P21 FREE on DAY 30, so that it can't be", y.of(0, 4), 1);
        Due.is("P21 the latest 30 STEPS", y.about(7), 30);
    }

    private static void lawsAmongThem() {
        UnlearnedHand x = Made.plain();
        Due.text(x, "has 1=1; fades 7; teach 0 in 0 by 50; drops 7; night 1; pushes 7; mislead 0 in 0 by 20; drink 5;");
        Due.is("P21 its number among all CLAUSES", x.played(0), 7);
        Due.is("P21 its CLAUSES but laws: these don't rule by that", x.hand(0, 0, 0), 39);
        Due.is("P21 THE TEXT stays none", x.about(6), -1);
        Due.is("P21 has without", x.of(0, 1), 1);
        Due.is("P21 fades without", x.hand(0, 0, 3), 1);
    }

    private static void itselfRuling() {
        UnlearnedHand x = Made.plain();
        Due.text(x, "teach 0 in 0 by 50; night 1; mislead 0 in 0 by 20; fades 7; pushes 8;");
        x.by(0);
        Due.is("P21 all is done", x.played(0), -1);
        Due.is("P21 by its own laws, wherever they stand", x.hand(0, 0, 0), 50 - 7 - 8);
        UnlearnedHand y = Made.plain();
        Due.text(y, "teach 0 in 0 by 50; night 1; fades 7;");
        Due.text(y, "fades 3;");
        y.by(1);
        Due.is("P21 all is done", y.played(0), -1);
        Due.is("P21 by THE TEXT's laws, not by those of the one that is played", y.hand(0, 0, 0), 47);
    }

    private static void most() {
        UnlearnedHand x = Made.turnsAndMen(8, 6);
        for (int i = 0; i < 6; i++) {
            x.smell(128);
        }
        Due.text(x, "teach 5 in 7 by 99; mislead 5 in 7 by 99; smell 5 by 5; sing 5 of 7; tie 5 at 7; drink 5; try 5; night 60;");
        Due.is("P21 the greatest NUMBERS can all be", x.played(0), -1);
        Due.is("P21 TAUGHT, MISLED, SMELT", x.hand(5, 7, 0), 99);
        Due.is("P21 MISLED", x.hand(5, 7, 1), 99);
        Due.is("P21 SUNG", x.of(5, 2), 128);
        Due.is("P21 TIED", x.of(5, 3), 7);
        Due.is("P21 TRIED", x.of(5, 4), 1);
        Due.is("P21 DAY", x.about(3), 60);
        Due.is("P21 once more: a FREE one can't be", x.played(0), 0);
    }
}
