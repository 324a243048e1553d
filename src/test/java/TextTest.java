/** Promises 16 to 21: the tape, texts, their faults, the text that rules, and playing. */
public final class TextTest {
    public static void main(String[] args) {
        tape();
        text();
        tokens();
        faultsOfClauses();
        faultsOfNumbers();
        faultsOfSums();
        values();
        has();
        by();
        played();
        playedNights();
        Due.end();
    }

    private static void tape() {
        UnlearnedHand x = new UnlearnedHand();
        Due.is("P17 end(1) of none", x.end(1), -1);
        Due.is("P17 end(0)", x.end(0), 0);
        for (int i = 1; i <= 15; i++) {
            Due.is("P16 feed", x.feed(0, 0, 0, 0, 0), i * 20);
        }
        Due.is("P16 more than 300", x.feed(0, 0, 0, 0, 0), -1);
        Due.is("P16 none come", x.about(10), 300);
        Due.is("P17 end(301)", x.end(301), -1);
        Due.is("P17 end(-1)", x.end(-1), -1);
        Due.is("P17 nothing is done", x.about(10), 300);
        Due.is("P17 end(281)", x.end(281), 281);
        Due.is("P16 one too many", x.feed(0, 0, 0, 0, 0), -1);
        Due.is("P17 end(280)", x.end(280), 280);
        Due.is("P16 just enough", x.feed(0, 0, 0, 0, 0), 300);
        Due.is("P17 end(300)", x.end(300), 300);
        // The highest byte first: "has 1<2;" and blanks.
        x.end(0);
        x.feed(0x68617320, 0x313c323b, 0x20202020, 0x20202020, 0x20202020);
        Due.is("P16 P18 the highest first", x.text(), 0);
        // A byte from 128 is no token; its sign is no other byte's.
        x.feed(0x20202020, 0x202020ff, 0, 0, 0);
        Due.is("P18 a byte 255", x.text(), -1);
        Due.is("P19 its place", x.fault(1), 7);
    }

    private static void text() {
        UnlearnedHand x = new UnlearnedHand();
        Due.is("P19 ahead of any", x.fault(0), -1);
        Due.is("P19 ahead of any", x.fault(1), -1);
        Due.is("P18 an empty tape", x.text(), 0);
        Due.is("P19 none", x.fault(0), 0);
        Due.is("P19 no place", x.fault(1), -1);
        Due.is("P19 what 2", x.fault(2), -1);
        Due.is("P19 what -1", x.fault(-1), -1);
        Due.is("P18 the next", Due.text(x, "fades 2;"), 1);
        Due.is("P18 the tape is empty", x.about(10), 0);
        Due.is("P18 a fault", Due.text(x, "fades"), -1);
        Due.is("P18 the tape is empty then too", x.about(10), 0);
        Due.is("P19 fault", x.fault(0), 1);
        Due.is("P19 at the length", x.fault(1), 5);
        Due.is("P19 what 2, behind a fault", x.fault(2), -1);
        Due.is("P19 what -1, behind a fault", x.fault(-1), -1);
        Due.is("P42 texts", x.about(5), 2);
        Due.is("P18 the next", Due.text(x, "drops 2;"), 2);
        Due.is("P18 the last", Due.text(x, "\n \n"), 3);
        Due.is("P18 there are 4", Due.text(x, "fades"), -1);
        Due.is("P18 the tape stays", x.about(10), 5);
        Due.is("P19 of the latest that was read", x.fault(0), 0);
        Due.is("P42 texts", x.about(5), 4);
        UnlearnedHand y = new UnlearnedHand();
        StringBuilder longest = new StringBuilder("fades 1");
        while (longest.length() < 299) {
            longest.append(longest.length() % 2 == 1 ? "+" : "1");
        }
        longest.setLength(299);
        longest.append(';');
        Due.is("P18 300 bytes", Due.text(y, longest.toString()), 0);
        y.by(0);
        y.turn(1);
        y.man(1);
        Due.is("P18 all are read", y.hand(0, 0, 3), 99);
    }

    private static void tokens() {
        Due.fault("has right>=wrong;", 0, -1);
        Due.fault("has right> =wrong;", 1, 11);
        Due.fault("has right=>wrong;", 1, 10);
        Due.fault("has right<=wrong\n;", 0, -1);
        Due.fault("has right <> wrong;", 1, 11);
        Due.fault("hasright<1;", 1, 0);
        Due.fault("has 1<2right;", 1, 7);
        Due.fault("Has 1<2;", 1, 0);
        Due.fault("has\t1<2;", 1, 3);
        Due.fault("has 1<2;\r", 1, 8);
        Due.fault("has 1<2 & 1<3;", 1, 8);
        Due.fault("fades 1 2;", 1, 8);
        Due.fault("fades 00000000000000012;", 0, -1);
        Due.fault("fades rights;", 1, 6);
        Due.fault("fades righ;", 1, 6);
        Due.fault("fades r;", 1, 6);
        Due.fault("fadesa 1;", 1, 0);
        Due.fault("fadesz 1;", 1, 0);
        Due.fault("fadesA 1;", 1, 0);
        Due.fault("fadesZ 1;", 1, 0);
        Due.fault("fades@ 1;", 1, 5);
        Due.fault("fades{ 1;", 1, 5);
        Due.fault("   ?", 1, 3);
    }

    private static void faultsOfClauses() {
        Due.fault(";", 1, 0);
        Due.fault("has 1<2;;", 1, 8);
        Due.fault("right", 1, 0);
        Due.fault("7", 1, 0);
        Due.fault("fades 1", 1, 7);
        Due.fault("fades 1   ", 1, 10);
        Due.fault("fades;", 1, 5);
        Due.fault("fades 1; fades 2;", 4, 9);
        Due.fault("has 1<2;drops 1;pushes 1;fades 1;pushes 1;", 4, 33);
        Due.fault("fades 1; has fades;", 1, 13);
        Due.fault("fades 1; teach 0 in 0 by 1; drops ( ; ", 1, 36);
        StringBuilder many = new StringBuilder();
        for (int i = 0; i < 24; i++) {
            many.append("try 0;");
        }
        Due.fault(many.toString(), 0, -1);
        Due.fault(many + " try 0;", 6, 145);
        Due.fault(many + "try ?", 6, 144);
        Due.fault(many + "drops 1;", 6, 144);
        Due.fault(many + "x", 1, 144);
        Due.fault("has 1<2;" + many.substring(6) + "has 1<2;", 4, 146);
        Due.fault("sing 0 of 0;sing 5 of 7;tie 5 at 7;smell 5 by 5;try 5;drink 5;night 60;", 0, -1);
        Due.fault("teach 5 in 7 by 99;mislead 0 in 0 by 1;night 1;", 0, -1);
        Due.fault("teach 0 of 0 by 1;", 1, 8);
        Due.fault("teach right in 0 by 1;", 1, 6);
        Due.fault("teach 0 in 0;", 1, 12);
        Due.fault("smell 0 of 0;", 1, 8);
        Due.fault("tie 0 of 0;", 1, 6);
        Due.fault("sing 0 at 0;", 1, 7);
        Due.fault("drink 0 0;", 1, 8);
        Due.fault("drink -1;", 1, 6);
        Due.fault("drink ;", 1, 6);
        Due.fault("teach 0 in by 1;", 1, 11);
        Due.fault("sing of 0;", 1, 5);
        Due.fault("night (1);", 1, 6);
        Due.fault("try", 1, 3);
    }

    private static void faultsOfNumbers() {
        Due.fault("fades 9999;", 0, -1);
        Due.fault("fades 10000;", 2, 6);
        Due.fault("fades 1+99999999999999999999;", 2, 8);
        Due.fault("fades 4294967296;", 2, 6);
        Due.fault("fades 1 10000;", 1, 8);
        Due.fault("teach 6 in 0 by 1;", 2, 6);
        Due.fault("teach 0 in 8 by 1;", 2, 11);
        Due.fault("teach 0 in 0 by 0;", 2, 16);
        Due.fault("teach 0 in 0 by 100;", 2, 16);
        Due.fault("mislead 6 in 0 by 1;", 2, 8);
        Due.fault("mislead 0 in 8 by 1;", 2, 13);
        Due.fault("mislead 0 in 0 by 0;", 2, 18);
        Due.fault("drink 6;", 2, 6);
        Due.fault("sing 6 of 0;", 2, 5);
        Due.fault("sing 0 of 8;", 2, 10);
        Due.fault("tie 6 at 0;", 2, 4);
        Due.fault("tie 0 at 8;", 2, 9);
        Due.fault("smell 6 by 0;", 2, 6);
        Due.fault("smell 0 by 6;", 2, 11);
        Due.fault("try 6;", 2, 4);
        Due.fault("night 0;", 2, 6);
        Due.fault("night 61;", 2, 6);
        Due.fault("night 10000;", 2, 6);
    }

    private static void faultsOfSums() {
        Due.fault("fades ((((((((1))))))));", 0, -1);
        Due.fault("fades (((((((((1)))))))));", 3, 14);
        Due.fault("fades --------1;", 0, -1);
        Due.fault("fades ---------1;", 3, 14);
        Due.fault("fades root root root root (-(-1)) ;", 0, -1);
        Due.fault("fades root root root root (-(-(-1))) ;", 3, 30);
        Due.fault("fades (-(-(-(-1)))) + (-(-(-(-(1)))));", 3, 30);
        Due.fault("fades 1-1-1-1-1-1-1-1-1-1-1;", 0, -1);
        Due.fault("fades (1)+(1)+(1)+(1)+(1)+(1)+(1)+(1)+(1)+(1);", 0, -1);
        Due.fault("has not not not not not not not not 1<2;", 0, -1);
        Due.fault("has not not not not not not not not not 1<2;", 3, 36);
        Due.fault("has not not not not (((1)))<((((1))));", 0, -1);
        Due.fault("has not not not not (((1)))<(((((1)))));", 3, 32);
        Due.fault("has not 1<2 and not not not not not not not not 1<2;", 0, -1);
        Due.fault("has 1;", 1, 5);
        Due.fault("has 1<2<3;", 1, 7);
        Due.fault("has (1<2);", 1, 6);
        Due.fault("has 1<not 2;", 1, 6);
        Due.fault("has 1<2 and;", 1, 11);
        Due.fault("has or 1<2;", 1, 4);
        Due.fault("has 1<2 not 1<2;", 1, 8);
        Due.fault("has 1<2 and not 1<2 or not not 1=1;", 0, -1);
        Due.fault("fades 1<2;", 1, 7);
        Due.fault("fades not 1;", 1, 6);
        Due.fault("fades ();", 1, 7);
        Due.fault("fades (1;", 1, 8);
        Due.fault("fades 1);", 1, 7);
        Due.fault("fades 1 + * 2;", 1, 10);
        Due.fault("fades +1;", 1, 6);
        Due.fault("fades 1 * -2 - - 3 / root 4;", 0, -1);
        Due.fault("fades root;", 1, 10);
        Due.fault("has turn+pride+right+wrong+worth<1;", 0, -1);
        Due.fault("fades turn+pride+right+wrong+worth+day+sung+tied;", 0, -1);
        Due.fault("drops turn+pride+right+wrong+worth+day;", 0, -1);
        Due.fault("pushes turn+pride+right+wrong+worth+much;", 0, -1);
        Due.fault("has day<1;", 5, 4);
        Due.fault("has sung<1;", 5, 4);
        Due.fault("has tied<1;", 5, 4);
        Due.fault("has much<1;", 5, 4);
        Due.fault("fades much;", 5, 6);
        Due.fault("drops sung;", 5, 6);
        Due.fault("drops tied;", 5, 6);
        Due.fault("drops much;", 5, 6);
        Due.fault("pushes day;", 5, 7);
        Due.fault("pushes sung;", 5, 7);
        Due.fault("pushes tied;", 5, 7);
        Due.fault("pushes 1 day;", 1, 9);
    }

    /** The value that fades has by a sum (-9 to 99), right being 10, wrong 3, pride 4, worth 7, turn 1. */
    private static void value(String sum, int due) {
        UnlearnedHand x = new UnlearnedHand();
        x.turn(2);
        x.turn(7);
        x.man(4);
        x.teach(0, 1, 11);
        x.mislead(0, 1, 3);
        x.night(0);
        Due.text(x, "fades " + sum + ";");
        x.by(0);
        Due.is("P18 value of " + sum, x.hand(0, 1, 3), due);
    }

    private static void values() {
        value("turn*1+pride*10", 41);
        value("right-wrong-worth", 0);
        value("20-5-3", 12);
        value("20/3/2", 3);
        value("2+3*4", 14);
        value("(2+3)*4", 20);
        value("20-3*4+2", 10);
        value("7-2*3/4*5+1", 3);
        value("-7/2", -3);
        value("7/-2", -3);
        value("7/0", 0);
        value("0-7/0", 0);
        value("--5", 5);
        value("-2*3", -6);
        value("2*-3", -6);
        value("root 80", 8);
        value("root 81", 9);
        value("root -17", -4);
        value("root 0", 0);
        value("root root 9999", 9);
        value("root 16*2", 8);
        value("-root 16", -4);
        value("root(9999*101)/100", 10);
        value("9999*9999/9999", 99);
        value("9999*9999/(9999*2)", 50);
        value("(9999*9999+1)/(9999*2)", 50);
        value("(9999*9999-1)-9999*100", 99);
        value("(9999*9999-1)-9999*100-9", 90);
        value("(9999*100+99)-9999*100", 99);
        value("(9999*100+99)-9999*100-9", 90);
        value("(9999*100+102)-9999*100-10", 90);
        value("0-(0-9999*9999-5)-9999*100-10", 90);
        value("(0-9999*9999-5)/-(5000*20)", 10);
        value("0-9999*9999/(5000*100)", -2);
        value("root(9999*9999)/10", 99);
        value("(root(9999*9999)-900)", 99);
        value("root(9999*9999)-901", 99);
        value("root(0-9999*9999)+1001", 1);
    }

    private static void asked(String either, boolean due) {
        UnlearnedHand x = new UnlearnedHand();
        x.turn(2);
        x.man(4);
        Due.text(x, "has " + either + ";");
        x.by(0);
        Due.is("P18 of " + either, x.of(0, 1), due ? 1 : 0);
    }

    private static void has() {
        asked("1<2", true);
        asked("2<2", false);
        asked("2<=2", true);
        asked("3<=2", false);
        asked("3>2", true);
        asked("2>2", false);
        asked("2>=2", true);
        asked("1>=2", false);
        asked("2=2", true);
        asked("1=2", false);
        asked("2#2", false);
        asked("1#2", true);
        asked("not 1=1", false);
        asked("not not 1=1", true);
        asked("not 1=2 and 1=2", false);
        asked("1=1 or 1=1 and 1=2", true);
        asked("1=2 and 1=1 or 1=1", true);
        asked("1=2 and 1=2 or 1=2", false);
        asked("1=2 or 1=1 and 1=1", true);
        asked("1=2 or 1=1 and 1=2 or 1=2", false);
        asked("1=2 or 1=2 or 1=1", true);
        asked("1=1 and 1=1 and 1=2", false);
        asked("not 1=1 or not 1=2", true);
    }

    private static void by() {
        UnlearnedHand x = new UnlearnedHand();
        x.turn(2);
        x.man(4);
        Due.is("P20 none as at first", x.by(-1), true);
        Due.is("P20 a text that isn't told", x.by(0), false);
        Due.text(x, "has pride=4;");
        Due.text(x, "fades 5;");
        Due.is("P20 none rules yet", x.of(0, 1), 0);
        Due.is("P20 by(0)", x.by(0), true);
        Due.is("P42 the text", x.about(6), 0);
        Due.is("P20 it rules", x.of(0, 1), 1);
        Due.is("P20 by(2)", x.by(2), false);
        Due.is("P20 by(-2)", x.by(-2), false);
        Due.is("P42 the text stays", x.about(6), 0);
        Due.is("P20 by(1)", x.by(1), true);
        Due.is("P20 the other rules alone", x.of(0, 1), 0);
        Due.is("P20 fades", x.hand(0, 0, 3), 5);
        Due.is("P20 by(NONE)", x.by(-1), true);
        Due.is("P20 fades", x.hand(0, 0, 3), 1);
    }

    private static void played() {
        UnlearnedHand x = new UnlearnedHand();
        x.turn(2);
        x.turn(3);
        x.man(4);
        x.man(5);
        x.smell(2);
        Due.is("P21 a text that isn't told", x.played(0), -2);
        Due.is("P21 played(-1)", x.played(-1), -2);
        Due.text(x, "teach 1 in 0 by 30; fades 7; mislead 1 in 0 by 9; sing 0 of 1; sing 1 of 0; sing 1 of 0; tie 0 at 1; smell 0 by 1; drink 1; night 2;");
        Due.is("P21 played", x.played(0), -1);
        Due.is("P21 right", x.hand(1, 0, 0), 21);
        Due.is("P21 wrong", x.hand(1, 0, 1), 9);
        Due.is("P21 sung: man, turn", x.of(0, 2), 2);
        Due.is("P21 sung and not any more", x.of(1, 2), 0);
        Due.is("P21 tied", x.of(0, 3), 1);
        Due.is("P21 steps, as by hand", x.about(7), 10);
        Due.is("P21 the text doesn't rule by that", x.about(6), -1);
        Due.is("P21 tied at that already", x.played(0), 6);
        Due.is("P21 what was done stays", x.hand(1, 0, 0), 47);
        Due.is("P21 sung the other way round", x.of(0, 2), 0);
        Due.text(x, "fades 1; teach 2 in 0 by 1;");
        Due.is("P21 laws are numbered too", x.played(1), 1);
        Due.text(x, "try 0; try 0;");
        x.allow(8);
        Due.is("P21 a free one isn't tried", x.played(2), 1);
        Due.is("P21 free", x.of(0, 4), 1);
        Due.is("P21 an empty one", Due.text(x, ""), 3);
        Due.is("P21 all is done", x.played(3), -1);
        Due.is("P21 played(4)", x.played(4), -2);
        String[] cannot = {"teach 0 in 5 by 1;", "mislead 5 in 0 by 1;", "drink 5;", "sing 0 of 5;", "sing 5 of 0;", "tie 0 at 5;", "tie 5 at 0;", "smell 3 by 0;", "smell 0 by 5;", "try 5;"};
        for (String clause : cannot) {
            UnlearnedHand y = new UnlearnedHand();
            y.turn(2);
            y.man(4);
            y.smell(1);
            Due.text(y, "night 1; " + clause + " night 5;");
            Due.is("P21 that can't be: " + clause, y.played(0), 1);
            Due.is("P21 it ends it", y.about(3), 1);
        }
    }

    private static void playedNights() {
        UnlearnedHand x = new UnlearnedHand();
        for (int i = 0; i < 16; i++) {
            x.night(60);
        }
        x.night(36);
        Due.text(x, "night 2; drops 1; night 2; night 1;");
        Due.is("P21 those that can are done", x.played(0), 2);
        Due.is("P21 day", x.about(3), 999);
        Due.is("P21 none can", x.played(0), 0);
        Due.is("P21 day", x.about(3), 999);
    }
}
