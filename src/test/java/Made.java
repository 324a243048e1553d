/** Objects on which edges are looked at. */
final class Made {
    private Made() {
    }

    static UnlearnedHand fresh() {
        return new UnlearnedHand();
    }

    /** Turns 0, 1, 2 of worth 3, 5, 7, 0 leads to 1 and 1 to 2; men of pride 4 and 0; smells of 1, and of 0 and 2. */
    static UnlearnedHand plain() {
        UnlearnedHand x = new UnlearnedHand();
        x.turn(3);
        x.turn(5);
        x.turn(7);
        x.leads(0, 1);
        x.leads(1, 2);
        x.man(4);
        x.man(0);
        x.smell(2);
        x.smell(5);
        return x;
    }

    /** As plain, but with some of all that can have been done, an image behind it, and a good tape. */
    static UnlearnedHand lived() {
        UnlearnedHand x = plain();
        x.teach(0, 0, 9);
        x.image();
        Due.text(x, "fades 2; drops 1; pushes much/3; has right>wrong+1;");
        x.by(0);
        x.allow(1);
        x.teach(0, 0, 60);
        x.teach(0, 1, 30);
        x.teach(1, 0, 20);
        x.teach(1, 2, 50);
        x.mislead(0, 0, 12);
        x.mislead(1, 2, 9);
        x.mislead(1, 1, 40);
        x.sing(0, 1, true);
        x.tie(0, 2);
        x.winters(2, 1);
        x.night(2);
        x.drink(1);
        x.done(0, true);
        x.done(1, false);
        Due.feed(x, "drops 7; fades 3;");
        return x;
    }

    /** As lived, but man 1 is free, with turns that can be more and less. */
    static UnlearnedHand freed() {
        UnlearnedHand x = lived();
        x.allow(8);
        x.tried(1);
        x.allow(1);
        return x;
    }

    /** As plain, but each man has sung a turn, so that he isn't free by trials, and so many days have passed. */
    static UnlearnedHand onDay(int day) {
        UnlearnedHand x = plain();
        for (int man = 0; man < 2; man++) {
            x.teach(man, 1 + man, 50);
            x.sing(man, 1 + man, true);
        }
        for (int left = day; left > 0; left -= 60) {
            x.night(Math.min(60, left));
        }
        return x;
    }

    static UnlearnedHand lastDay() {
        return onDay(999);
    }

    static UnlearnedHand turnsAndMen(int turns, int men) {
        UnlearnedHand x = new UnlearnedHand();
        for (int i = 0; i < turns; i++) {
            x.turn(1 + i);
        }
        for (int i = 0; i < men; i++) {
            x.man(i);
        }
        return x;
    }

    /** Eight turns, and a man who has been taught the last one. */
    static UnlearnedHand allTurns() {
        UnlearnedHand x = turnsAndMen(8, 1);
        x.teach(0, 7, 5);
        return x;
    }

    /** Six men, the last of whom has been taught. */
    static UnlearnedHand allMen() {
        UnlearnedHand x = turnsAndMen(1, 6);
        x.teach(5, 0, 5);
        return x;
    }

    static UnlearnedHand allSmells() {
        UnlearnedHand x = turnsAndMen(3, 1);
        for (int i = 0; i < 6; i++) {
            x.smell(1 + i);
        }
        return x;
    }

    static UnlearnedHand allDone() {
        UnlearnedHand x = turnsAndMen(3, 1);
        for (int i = 0; i < 8; i++) {
            x.done(i % 2, i % 2 == 0);
        }
        return x;
    }

    /** Four texts, of which the second rules, and a good tape. */
    static UnlearnedHand allTexts() {
        UnlearnedHand x = turnsAndMen(1, 1);
        for (int i = 0; i < 4; i++) {
            Due.text(x, "fades " + (i + 2) + ";");
        }
        x.by(1);
        Due.feed(x, "drops 5;");
        return x;
    }

    /** A good tape of so many bytes, blanks for most. */
    static UnlearnedHand tapeOf(int bytes) {
        UnlearnedHand x = turnsAndMen(1, 1);
        Due.feed(x, ("fades 8;" + " ".repeat(292)).substring(0, bytes));
        return x;
    }

    /** As plain, but by a text that rules. */
    static UnlearnedHand ruled(String text) {
        UnlearnedHand x = plain();
        Due.is("the text of a test: " + text, Due.text(x, text), 0);
        x.by(0);
        return x;
    }
}
