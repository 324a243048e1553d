/** The edges of promises 16 to 20: the tape, texts that are told, the latest fault's asking, and the text that rules. */
public final class TapeEdgesTest {
    public static void main(String[] args) {
        feedUpToItsEnd();
        bytes();
        end();
        fourTexts();
        emptyOnes();
        theTapeBehind();
        longest();
        faultAsked();
        by();
        Due.end();
    }

    private static void feedUpToItsEnd() {
        UnlearnedHand x = new UnlearnedHand();
        for (int i = 1; i <= 15; i++) {
            Due.is("P16 Twenty bytes: how many it has", x.feed(i, i, i, i, i), 20 * i);
        }
        for (int bytes : new int[] {281, 282, 290, 299, 300}) {
            Edge.stays("P16 NONE, and none come: " + bytes + " and 20", () -> Made.tapeOf(bytes), y -> y.feed(0x3b3b3b3b, 1, 2, 3, 4), -1);
        }
        Edge.taken("P16 no more than 300: 280 and 20", () -> Made.tapeOf(280), y -> y.feed(0, 0, 0, 0, 0), 300, y -> y.about(10), 300);
        Edge.taken("P16 no more than 300: 279 and 20", () -> Made.tapeOf(279), y -> y.feed(0, 0, 0, 0, 0), 299, y -> y.about(10), 299);
        Edge.taken("P16 behind the tape: 3 and 20", () -> Made.tapeOf(3), y -> y.feed(0, 0, 0, 0, 0), 23, y -> y.about(10), 23);
        Edge.taken("P16 no STEP", Made::plain, y -> y.feed(0, 0, 0, 0, 0), 20, y -> y.about(7), 0);
        UnlearnedHand z = Made.tapeOf(300);
        for (int i = 0; i < 5; i++) {
            Due.is("P16 NONE again and again", z.feed(i, i, i, i, i), -1);
        }
        Due.is("P16 none came: the tape is as it was", z.text(), 0);
    }

    /** The place at which the first byte that is no token stands on the tape, or NONE. */
    private static int placeOfFault(int... five) {
        UnlearnedHand x = new UnlearnedHand();
        x.feed(five[0], five[1], five[2], five[3], five[4]);
        x.text();
        return x.fault(1);
    }

    private static void bytes() {
        for (int place = 0; place < 20; place++) {
            int[] five = {0x20202020, 0x20202020, 0x20202020, 0x20202020, 0x20202020};
            five[place / 4] ^= 0x01 << 24 - 8 * (place % 4);
            Due.is("P16 the highest of a first: byte " + place, placeOfFault(five), place);
            five[place / 4] ^= 0xde << 24 - 8 * (place % 4);
            Due.is("P16 the highest of a first, 255: byte " + place, placeOfFault(five), place);
        }
        Due.is("P16 all are blanks", placeOfFault(0x20202020, 0x0a0a0a0a, 0x200a200a, 0x0a20200a, 0x20202020), -1);
        UnlearnedHand x = new UnlearnedHand();
        x.feed(0x66616465, 0x73202020, 0x20202020, 0x20202020, 0x20202037);
        x.feed(0x353b2020, 0x20202020, 0x20202020, 0x20202020, 0x20202020);
        Due.is("P16 bytes come behind the tape, one TOKEN across", x.text(), 0);
        x.by(0);
        x.turn(1);
        x.man(1);
        Due.is("P16 75, across two feeds", x.hand(0, 0, 3), 75);
    }

    private static void end() {
        for (int bytes : new int[] {0, 1, 20, 299, 300}) {
            for (int n : Edge.beyond(0, bytes)) {
                String why = n < 0 ? "n is below 0" : "it has not so many";
                Edge.stays("P17 NONE, and nothing is done: " + why + ": " + n + " of " + bytes, () -> Made.tapeOf(bytes), x -> x.end(n), -1);
            }
            Edge.taken("P17 all its bytes: " + bytes, () -> Made.tapeOf(bytes), x -> x.end(bytes), bytes, x -> x.about(10), bytes);
            Edge.taken("P17 none of its bytes: " + bytes, () -> Made.tapeOf(bytes), x -> x.end(0), 0, x -> x.about(10), 0);
        }
        Edge.taken("P17 one byte less", () -> Made.tapeOf(300), x -> x.end(299), 299, x -> x.about(10), 299);
        Edge.taken("P17 its first n bytes alone: 7 of fades 8;", () -> Made.tapeOf(20), x -> x.end(7) + x.text(), 6, x -> x.fault(1), 7);
        Edge.taken("P17 its first n bytes alone: 8 of fades 8;", () -> Made.tapeOf(20), x -> x.end(8) + x.text(), 8, x -> x.fault(1), -1);
        UnlearnedHand x = Made.tapeOf(8);
        x.end(6);
        x.feed(0x343b2020, 0x20202020, 0x20202020, 0x20202020, 0x20202020);
        Due.is("P17 what is behind is gone", x.text(), 0);
        x.by(0);
        Due.is("P17 what is behind is gone: 4, not 8", x.hand(0, 0, 3), 4);
        Edge.taken("P17 bytes that are gone can't come back", () -> Made.tapeOf(20), y -> y.end(5) + y.end(6), 4, y -> y.about(10), 5);
    }

    private static void fourTexts() {
        UnlearnedHand x = new UnlearnedHand();
        for (int i = 0; i < 4; i++) {
            Due.is("P18 a FAULT has no number", Due.text(x, "fades " + i), -1);
            Due.is("P18 a TEXT: its number", Due.text(x, "fades " + i + ";"), i);
            Due.is("P18 the tape is empty then", x.about(10), 0);
        }
        Edge.stays("P18 NONE: there are 4, the tape stays", Made::allTexts, UnlearnedHand::text, -1);
        Edge.taken("P18 there are 4: the tape stays", Made::allTexts, UnlearnedHand::text, -1, y -> y.about(10), 8);
        Edge.taken("P18 there are 4: it has no FAULT", Made::allTexts, UnlearnedHand::text, -1, y -> y.fault(0), 0);
        Edge.taken("P18 there are 4: the one that rules stays", Made::allTexts, UnlearnedHand::text, -1, y -> y.hand(0, 0, 3), 3);
        UnlearnedHand y = Made.allTexts();
        y.end(0);
        Due.is("P18 NONE: there are 4, the tape being empty", y.text(), -1);
        for (int i = 0; i < 4; i++) {
            Due.is("P20 TEXTS 0 .. 3", y.by(i), true);
            Due.is("P20 each with its own laws: " + i, y.hand(0, 0, 3), i + 2);
            Due.is("P20 without drops: " + i, y.hand(0, 0, 4), 0);
        }
    }

    private static void emptyOnes() {
        Edge.taken("P18 an empty tape is a TEXT", Made::fresh, UnlearnedHand::text, 0, x -> x.fault(0), 0);
        Edge.taken("P18 a tape of blanks is a TEXT", Made::fresh, x -> Due.text(x, " \n  \n"), 0, x -> x.fault(1), -1);
        UnlearnedHand x = Made.turnsAndMen(1, 1);
        x.text();
        x.by(0);
        x.teach(0, 0, 40);
        Due.is("P20 has without, by an empty TEXT", x.of(0, 1), 1);
        Due.is("P20 fades without, by an empty TEXT", x.hand(0, 0, 3), 1);
        Due.is("P20 drops without, by an empty TEXT", x.hand(0, 0, 4), 0);
        Due.is("P20 pushes without, by an empty TEXT", x.mislead(0, 0, 9), 36);
        Due.is("P21 an empty TEXT: all is done", x.played(0), -1);
    }

    private static void theTapeBehind() {
        Edge.taken("P18 the tape is empty behind a FAULT too", Made::fresh, x -> Due.text(x, "fades"), -1, x -> x.about(10), 0);
        UnlearnedHand x = Made.turnsAndMen(1, 1);
        x.image();
        Due.text(x, "fades 7; drops 7; pushes 7; has 1=1;");
        Due.is("P18 nothing of what was on it is read again", Due.text(x, "drops 3;"), 1);
        x.by(1);
        Due.is("P18 no law of another TEXT: fades", x.hand(0, 0, 3), 1);
        Due.is("P18 no law of another TEXT: drops", x.hand(0, 0, 4), 3);
        Due.is("P18 no law of another TEXT: has", x.of(0, 1), 0);
        Due.is("P18 a FAULT behind four laws", Due.text(x, "has 1=1; pushes 9; fades 9; drops 9; ?"), -1);
        Due.is("P18 a TEXT behind it", Due.text(x, "drops 4;"), 2);
        x.by(2);
        Due.is("P18 no law of what had a FAULT: fades", x.hand(0, 0, 3), 1);
        Due.is("P18 no law of what had a FAULT: has", x.of(0, 1), 0);
        Due.is("P18 no clause of what had a FAULT", x.played(2), -1);
        x.teach(0, 0, 40);
        Due.is("P18 no law of what had a FAULT: pushes", x.mislead(0, 0, 2), 39);
        Due.is("P18 deeds ahead of a FAULT", Due.text(x, "drops 2; teach 0 in 0 by 9; drink 0; night 3; ?"), -1);
        Due.is("P18 a shorter TEXT behind it", Due.text(x, "drops 2;"), 3);
        Due.is("P21 no clause of what had a FAULT: all is done", x.played(3), -1);
        Due.is("P21 no clause of what had a FAULT: no STEP", x.about(7), 2);
        x.again();
        Due.text(x, "fades 9; drops 4;");
        x.by(0);
        Due.is("P18 while a TEXT rules, a FAULT", Due.text(x, "fades 7; drops 7; ?"), -1);
        Due.is("P20 it rules yet", x.hand(0, 0, 4), 4);
        Due.is("P20 it rules yet", x.hand(0, 0, 3), 9);
    }

    private static void longest() {
        UnlearnedHand x = Made.turnsAndMen(1, 1);
        String most = "fades 00" + "+1-1".repeat(72) + "+75;";
        Due.is("a text of 300 bytes", most.length(), 300);
        Due.is("P18 up to 300 bytes", Due.text(x, most), 0);
        x.by(0);
        Due.is("P18 all is read", x.hand(0, 0, 3), 75);
        UnlearnedHand y = Made.turnsAndMen(1, 1);
        for (int i = 0; i < 3; i++) {
            Due.is("P18 a FAULT at the end of 300 bytes", Due.text(y, most.substring(0, 299) + "?"), -1);
        }
        Due.is("P18 up to 300 bytes, behind FAULTS", Due.text(y, most), 0);
        y.by(0);
        Due.is("P18 all is read, behind FAULTS", y.hand(0, 0, 3), 75);
        Edge.fault("P19 of the end at the length: 300", "fades 1;" + " ".repeat(285) + "fades 1", 4, 293);
        Edge.fault("P19 of the end at the length: 300", "drops 1;" + " ".repeat(285) + "fades 1", 1, 300);
        Edge.fault("P19 at its last byte", "drops 1;" + " ".repeat(291) + "?", 1, 299);
        Edge.fault("P19 all of its bytes are no TOKENS", "?".repeat(300), 1, 0);
        Edge.fault("P19 all of its bytes are one TOKEN", "a".repeat(300), 1, 0);
        Edge.fault("P19 all of its bytes are one NUMBER", "9".repeat(300), 1, 0);
        Edge.fault("P19 a NUMBER to the end", "fades " + "0".repeat(294), 1, 300);
        Edge.fault("P18 a NUMBER of 293 digits", "fades " + "0".repeat(292) + "7;", 0, -1);
    }

    private static void faultAsked() {
        Edge.stays("P19 NONE ahead of any: the FAULT", Made::fresh, x -> x.fault(0), -1);
        Edge.stays("P19 NONE ahead of any: its place", Made::fresh, x -> x.fault(1), -1);
        Edge.stays("P19 NONE ahead of any, with a tape", () -> Made.tapeOf(5), x -> x.fault(0), -1);
        for (int what : Edge.beyond(0, 1)) {
            Edge.stays("P19 NONE for others: " + what, Made::lived, x -> x.fault(what), -1);
            Edge.stays("P19 NONE for others, ahead of any: " + what, Made::fresh, x -> x.fault(what), -1);
            Edge.stays("P19 NONE for others, behind a FAULT: " + what, () -> faulty(), x -> x.fault(what), -1);
        }
        Edge.stays("P19 0 its FAULT: 0 without", Made::lived, x -> x.fault(0), 0);
        Edge.stays("P19 1 its place: NONE without", Made::lived, x -> x.fault(1), -1);
        Edge.stays("P19 0 its FAULT", () -> faulty(), x -> x.fault(0), 2);
        Edge.stays("P19 1 its place", () -> faulty(), x -> x.fault(1), 6);
        Edge.taken("P19 of the latest text: without, behind a FAULT", () -> faulty(), x -> x.text(), 1, x -> x.fault(0), 0);
        Edge.taken("P19 of the latest text: no place, behind a FAULT", () -> faulty(), x -> x.text(), 1, x -> x.fault(1), -1);
        Edge.taken("P19 of the latest text: another FAULT", () -> faulty(), x -> Due.text(x, "?"), -1, x -> x.fault(0), 1);
        Edge.taken("P19 of the latest text: another place", () -> faulty(), x -> Due.text(x, "?"), -1, x -> x.fault(1), 8);
        Edge.taken("P19 of the latest that was read: not of the tape", () -> faulty(), x -> x.feed(0, 0, 0, 0, 0), 28, x -> x.fault(0), 2);
    }

    /** A text with a fault has been read, and a good one is on the tape. */
    private static UnlearnedHand faulty() {
        UnlearnedHand x = Made.plain();
        Due.text(x, "drops 1;");
        Due.text(x, "fades 10000;");
        Due.feed(x, "fades 3;");
        return x;
    }

    private static void by() {
        for (int text : Edge.beyond(-1, 0)) {
            Edge.denied("P20 false for others: TEXT " + text, Made::lived, x -> x.by(text));
        }
        for (int text : Edge.beyond(-1, 3)) {
            Edge.denied("P20 false for others, of four: TEXT " + text, Made::allTexts, x -> x.by(text));
        }
        Edge.denied("P20 false: TEXT 0 isn't told", Made::fresh, x -> x.by(0));
        Edge.granted("P20 NONE: none, as at first", Made::fresh, x -> x.by(-1), x -> x.about(6), -1);
        Edge.granted("P20 NONE: none any more", Made::lived, x -> x.by(-1), x -> x.about(6), -1);
        Edge.granted("P20 the one that rules already", Made::lived, x -> x.by(0), x -> x.about(6), 0);
        Edge.granted("P20 the first", Made::allTexts, x -> x.by(0), x -> x.hand(0, 0, 3), 2);
        Edge.granted("P20 the last", Made::allTexts, x -> x.by(3), x -> x.hand(0, 0, 3), 5);
        Edge.granted("P20 no STEP", () -> faulty(), x -> x.by(0), x -> x.about(7), 0);
        Edge.stays("P20 a TEXT told doesn't rule by that", () -> faulty(), x -> x.about(6), -1);
    }
}
