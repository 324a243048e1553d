/** The edges of promises 18 and 19 in the language: tokens, clauses, and the six faults with their places. */
public final class FaultsEdgesTest {
    private static final String[] LAWS = {"has", "fades", "drops", "pushes"};
    private static final String[] NAMES = {"turn", "pride", "right", "wrong", "worth", "day", "sung", "tied", "much"};
    private static final String[] DEEDS = {"teach 0 in 0 by 1", "mislead 0 in 0 by 1", "drink 0", "sing 0 of 0", "tie 0 at 0", "smell 0 by 0", "try 0", "night 1"};

    public static void main(String[] args) {
        everyByte();
        blanks();
        words();
        theLongest();
        numbers();
        numbersOfDeeds();
        whereNumbersCannotStand();
        openOnes();
        openAroundOneAnother();
        secondTime();
        names();
        twentyFive();
        ends();
        whatCannotStand();
        deedsForms();
        theFirst();
        theLeast();
        Due.end();
    }

    /** Behind a NUMBER stands each byte that there is, and then the clause's end. */
    private static void everyByte() {
        for (int b = 0; b < 256; b++) {
            char c = (char) b;
            String text = "fades 1" + c + ";";
            if (c == ' ' || c == '\n') {
                Edge.fault("P18 blanks (32, 10) aside: " + b, text, 0, -1);
            } else if (c >= '0' && c <= '9') {
                Edge.fault("P18 digits: " + b, text, 0, -1);
            } else if ("+-*/;".indexOf(c) >= 0) {
                Edge.fault("P19 a sign that can stand there: " + b, text, 1, 8);
            } else {
                Edge.fault("P19 1: it can't stand there, or is none: byte " + b, text, 1, 7);
            }
            boolean isBlank = c == ' ' || c == '\n';
            Edge.fault("P19 1: a byte by itself: " + b, "" + c, isBlank ? 0 : 1, isBlank ? -1 : 0);
        }
    }

    private static void blanks() {
        Edge.fault("P18 blanks aside: as many as can be", "  fades\n\n\n1 \n ; \n", 0, -1);
        Edge.fault("P18 blanks aside: none where TOKENS are unlike", "night1;teach0in0by1;has-1<2and not1=1or right>0;", 0, -1);
        Edge.fault("P18 blanks part words", "fa des 1;", 1, 0);
        Edge.fault("P18 blanks part NUMBERS", "fades 1 1;", 1, 8);
        Edge.fault("P18 blanks part signs", "has 1< =1;", 1, 7);
        Edge.fault("P18 a 10 parts words", "fa\ndes 1;", 1, 0);
        Edge.fault("P18 13 is no blank", "fades 1;\r\n", 1, 8);
        Edge.fault("P18 9 is no blank", "fades\t1;", 1, 5);
        Edge.fault("P18 160 is no blank", "fades" + (char) 160 + "1;", 1, 5);
    }

    private static void words() {
        for (String law : LAWS) {
            String rest = law.equals("has") ? " 1<2;" : " 1;";
            Edge.fault("P18 a word: " + law, law + rest, 0, -1);
            Edge.fault("P19 a letter more: " + law, law + "s" + rest, 1, 0);
            Edge.fault("P19 a letter less: " + law, law.substring(0, law.length() - 1) + rest, 1, 0);
            Edge.fault("P19 a .. z, A .. Z are unlike: " + law, law.substring(0, 1).toUpperCase() + law.substring(1) + rest, 1, 0);
            Edge.fault("P19 one behind the other (one TOKEN): " + law, law + "right" + rest, 1, 0);
            Edge.fault("P19 a .. z: the first: " + law, law + "a" + rest, 1, 0);
            Edge.fault("P19 a .. z: the last: " + law, law + "z" + rest, 1, 0);
            Edge.fault("P19 A .. Z too: " + law, law + "A" + rest, 1, 0);
            Edge.fault("P19 A .. Z too: " + law, law + "Z" + rest, 1, 0);
            Edge.fault("P19 the sign ahead of A is no letter: " + law, law + "@" + rest, 1, law.length());
            Edge.fault("P19 the sign behind Z is no letter: " + law, law + "[" + rest, 1, law.length());
            Edge.fault("P19 the sign ahead of a is no letter: " + law, law + "`" + rest, 1, law.length());
            Edge.fault("P19 the sign behind z is no letter: " + law, law + "{" + rest, 1, law.length());
        }
        for (String deed : DEEDS) {
            Edge.fault("P18 a word: " + deed, deed + ";", 0, -1);
            Edge.fault("P19 a letter more: " + deed, "x" + deed + ";", 1, 0);
            Edge.fault("P19 a letter less: " + deed, deed.substring(1) + ";", 1, 0);
        }
        for (String name : NAMES) {
            String law = name.equals("much") ? "pushes " : "fades ";
            Edge.fault("P18 a NAME: " + name, law + name + ";", 0, -1);
            Edge.fault("P19 a letter more: " + name, law + name + "e;", 1, law.length());
            Edge.fault("P19 a letter less: " + name, law + name.substring(1) + ";", 1, law.length());
            Edge.fault("P19 a NUMBER in it: " + name, law + name + "1;", 1, law.length() + name.length());
        }
        Edge.fault("P19 a word of nothing is none", "fades 1 andor 1;", 1, 8);
        Edge.fault("P19 two words behind one another are one", "has 1<2 andnot 1<2;", 1, 8);
        Edge.fault("P19 a word with a blank of its list", "fades fades drops;", 1, 6);
    }

    private static void theLongest() {
        Edge.fault("P18 the longest: <=", "has 1<=2;", 0, -1);
        Edge.fault("P18 the longest: >=", "has 1>=2;", 0, -1);
        Edge.fault("P19 the longest: <=, then =", "has 1<==2;", 1, 7);
        Edge.fault("P19 the longest: >=, then =", "has 1>==2;", 1, 7);
        Edge.fault("P19 =< is two", "has 1=<2;", 1, 6);
        Edge.fault("P19 => is two", "has 1=>2;", 1, 6);
        Edge.fault("P19 == is two", "has 1==2;", 1, 6);
        Edge.fault("P19 << is two", "has 1<<2;", 1, 6);
        Edge.fault("P19 <> is two", "has 1<>2;", 1, 6);
        Edge.fault("P19 ## is two", "has 1##2;", 1, 6);
        Edge.fault("P18 <- is two, and can stand there", "has 1<-2;", 0, -1);
        Edge.fault("P19 = at the end", "has 1<=", 1, 7);
        Edge.fault("P19 < at the end", "has 1<", 1, 6);
        Edge.fault("P18 NUMBERS: all digits", "fades 1234;drops 5678;pushes 9000;", 0, -1);
    }

    private static void numbers() {
        String[] most = {"9999", "09999", "00000000009999", "0", "00", "0000000000000000000000"};
        String[] beyond = {"10000", "010000", "99999", "65536", "2147483648", "4294967296", "4294967297", "18446744073709551616", "18446744073709551617",
            "100000000000000000000000000000000000000001"};
        for (String number : most) {
            Edge.fault("P18 NUMBERS, 0 .. 9999", "fades " + number + ";", 0, -1);
            Edge.fault("P18 NUMBERS, 0 .. 9999, in has", "has 1<" + number + ";", 0, -1);
        }
        for (String number : beyond) {
            Edge.fault("P19 2: above 9999", "fades " + number + ";", 2, 6);
            Edge.fault("P19 2: above 9999, in a SUM", "drops (1+ " + number + ");", 2, 10);
            Edge.fault("P19 2: above 9999, in has", "has not 1=" + number + ";", 2, 10);
            Edge.fault("P19 2: above 9999, in a deed", "night " + number + ";", 2, 6);
            Edge.fault("P19 2: above 9999, of one ONE", "pushes -root " + number + ";", 2, 13);
        }
    }

    /** Of each NUMBER in a deed: the deed ahead of it and behind, the least and the greatest. */
    private static void inRange(String ahead, String behind, int least, int greatest) {
        Edge.fault("P18 the least", ahead + least + behind, 0, -1);
        Edge.fault("P18 the greatest", ahead + greatest + behind, 0, -1);
        Edge.fault("P18 noughts ahead", ahead + "000" + greatest + behind, 0, -1);
        Edge.fault("P19 2: beyond the greatest", ahead + (greatest + 1) + behind, 2, ahead.length());
        Edge.fault("P19 2: far beyond the greatest", ahead + 9999 + behind, 2, ahead.length());
        Edge.fault("P19 2: above 9999", ahead + 65536 + behind, 2, ahead.length());
        if (least > 0) {
            Edge.fault("P19 2: below the least", ahead + (least - 1) + behind, 2, ahead.length());
        }
        Edge.fault("P19 1: a NAME, where a NUMBER must be", ahead + "turn" + behind, 1, ahead.length());
        Edge.fault("P19 1: a SUM, where a NUMBER must be", ahead + "(1)" + behind, 1, ahead.length());
        Edge.fault("P19 1: below 0, where a NUMBER must be", ahead + "-1" + behind, 1, ahead.length());
        Edge.fault("P19 1: none, where a NUMBER must be", ahead + behind, 1, ahead.length() + (behind.startsWith(" ") ? 1 : 0));
        Edge.fault("P19 1: a SUM of it can't be", ahead + least + " +0" + behind, 1, ahead.length() + 2);
    }

    private static void numbersOfDeeds() {
        inRange("teach ", " in 0 by 1;", 0, 5);
        inRange("teach 0 in ", " by 1;", 0, 7);
        inRange("teach 0 in 0 by ", ";", 1, 99);
        inRange("mislead ", " in 0 by 1;", 0, 5);
        inRange("mislead 0 in ", " by 1;", 0, 7);
        inRange("mislead 0 in 0 by ", ";", 1, 99);
        inRange("drink ", ";", 0, 5);
        inRange("sing ", " of 0;", 0, 5);
        inRange("sing 0 of ", ";", 0, 7);
        inRange("tie ", " at 0;", 0, 5);
        inRange("tie 0 at ", ";", 0, 7);
        inRange("smell ", " by 0;", 0, 5);
        inRange("smell 0 by ", ";", 0, 5);
        inRange("try ", ";", 0, 5);
        inRange("night ", ";", 1, 60);
    }

    private static void whereNumbersCannotStand() {
        Edge.fault("P19 1 is the least: a NUMBER above 9999 that can't stand there: first", "10000 fades 1;", 1, 0);
        Edge.fault("P19 1 is the least: a NUMBER above 9999 that can't stand there: behind a NUMBER", "fades 1 10000;", 1, 8);
        Edge.fault("P19 1 is the least: a NUMBER above 9999 that can't stand there: for in", "teach 0 10000 0 by 1;", 1, 8);
        Edge.fault("P19 1 is the least: a NUMBER above 9999 that can't stand there: for ;", "try 0 10000;", 1, 6);
        Edge.fault("P19 1 is the least: a NUMBER above 9999 that can't stand there: for a sign", "has 1 10000 2;", 1, 6);
    }

    private static String closed(String open, int times) {
        return open.repeat(times) + "1" + (open.equals("(") ? ")".repeat(times) : "");
    }

    private static void openOnes() {
        String[] opens = {"(", "-", "root "};
        for (String open : opens) {
            Edge.fault("P18 8 open: " + open, "fades " + closed(open, 8) + ";", 0, -1);
            Edge.fault("P19 3: the 9th that is open: " + open, "fades " + closed(open, 9) + ";", 3, 6 + 8 * open.length());
            Edge.fault("P19 3: the 9th, of more: " + open, "fades " + closed(open, 30) + ";", 3, 6 + 8 * open.length());
            Edge.fault("P18 8 open, again and again: " + open, "fades " + closed(open, 8) + "+" + closed(open, 8) + "*" + closed(open, 8) + ";", 0, -1);
            Edge.fault("P19 3: on the right side of a sum: " + open, "fades 1+" + closed(open, 9) + ";", 3, 8 + 8 * open.length());
            Edge.fault("P18 8 open in has: " + open, "has " + closed(open, 8) + "<" + closed(open, 8) + ";", 0, -1);
            Edge.fault("P19 3: in has: " + open, "has 1<" + closed(open, 9) + ";", 3, 6 + 8 * open.length());
        }
        Edge.fault("P18 8 not", "has " + "not ".repeat(8) + "1<2;", 0, -1);
        Edge.fault("P19 3: the 9th not", "has " + "not ".repeat(9) + "1<2;", 3, 4 + 32);
        Edge.fault("P19 3: the 9th not, of more", "has " + "not ".repeat(40) + "1<2;", 3, 4 + 32);
        Edge.fault("P18 8 not behind 8 not: they aren't open any more", "has " + "not ".repeat(8) + "1<2 and " + "not ".repeat(8) + "1<2 or " + "not ".repeat(8) + "1=1;", 0, -1);
        Edge.fault("P19 3: the 9th not, behind and", "has 1<2 and " + "not ".repeat(9) + "1<2;", 3, 12 + 32);
        Edge.fault("P19 3: the 9th not, behind or", "has 1<2 or " + "not ".repeat(9) + "1<2;", 3, 11 + 32);
    }

    private static void openAroundOneAnother() {
        Edge.fault("P18 ( not root - together: 8", "has not not ( ( root - root - 1 ) )<2;", 0, -1);
        Edge.fault("P19 3: ( not root - together: the 9th is -", "has not not ( ( root - root - - 1 ) )<2;", 3, 30);
        Edge.fault("P19 3: ( not root - together: the 9th is root", "has not not ( ( root - root - root 1 ) )<2;", 3, 30);
        Edge.fault("P19 3: ( not root - together: the 9th is (", "has not not ( ( root - root - (1) ) )<2;", 3, 30);
        Edge.fault("P18 not is open around both sums: 8", "has not ((((((1))))))<(((((((1)))))));", 0, -1);
        Edge.fault("P19 3: not is open around the second sum too", "has not 1<((((((((1))))))));", 3, 17);
        Edge.fault("P19 3: not is open around the first sum", "has not ((((((((1))))))))<1;", 3, 15);
        Edge.fault("P18 - of two isn't open", "fades 1" + "-1".repeat(30) + ";", 0, -1);
        Edge.fault("P18 - of two, then 8 - of one", "fades 1-" + "-".repeat(8) + "1;", 0, -1);
        Edge.fault("P19 3: - of two, then 9 - of one", "fades 1-" + "-".repeat(9) + "1;", 3, 16);
        Edge.fault("P18 - and root are open around one ONE alone", "fades --------1*--------1;", 0, -1);
        Edge.fault("P18 ( is open till )", "fades ((((((((1))))))))-((((((((1))))))));", 0, -1);
        Edge.fault("P18 two closed, two opened: 8", "fades ((((((((1))-((1))))))));", 0, -1);
        Edge.fault("P19 3: two closed, three opened: the 9th", "fades ((((((((1))-(((1)))))))));", 3, 20);
        Edge.fault("P18 one closed, one opened: 8", "fades ((((((((1)+(1)-(1)*(1))))))));", 0, -1);
        Edge.fault("P19 3: the 9th, though what is behind can't stand there", "fades (((((((((;", 3, 14);
        Edge.fault("P19 1: 8 open, and none behind", "fades ((((((((;", 1, 14);
        Edge.fault("P19 1: 8 not, and none behind", "has " + "not ".repeat(8) + ";", 1, 36);
        Edge.fault("P19 1: a 9th ( that can't stand there", "fades ((((((((1 (", 1, 16);
        Edge.fault("P19 1: a 9th not that can't stand there", "has " + "not ".repeat(8) + "1 not 1;", 1, 38);
        Edge.fault("P19 1: not in a sum, 8 being open", "fades ((((((((not 1", 1, 14);
    }

    private static void secondTime() {
        for (String law : LAWS) {
            String clause = law + (law.equals("has") ? " 1<2;" : " 1;");
            Edge.fault("P19 4: " + law + " for the second time (at it)", clause + " " + clause, 4, clause.length() + 1);
            Edge.fault("P19 4: " + law + " for the second time, another between", clause + "try 0;" + clause, 4, clause.length() + 6);
            Edge.fault("P19 4: " + law + " for the second time, whatever is behind", clause + law, 4, clause.length());
            Edge.fault("P19 4: " + law + " for the second time, the first being second", "night 1;" + clause + law + " ?", 4, clause.length() + 8);
        }
        Edge.fault("P18 each once", "pushes 1;drops 1;fades 1;has 1<2;", 0, -1);
        for (String deed : DEEDS) {
            Edge.fault("P18 a deed may be for the second time: " + deed, deed + ";" + deed + ";", 0, -1);
        }
        UnlearnedHand x = new UnlearnedHand();
        Due.text(x, "fades 1;");
        Due.is("P18 each once: in one TEXT", Due.text(x, "fades 1;"), 1);
        Due.text(x, "drops 1; ?");
        Due.is("P18 each once: not counting what had a FAULT", Due.text(x, "drops 1;"), 2);
    }

    private static void names() {
        // Of each NAME: has, fades, drops, pushes.
        String[] in = {"1111", "1111", "1111", "1111", "1111", "0110", "0100", "0100", "0001"};
        for (int name = 0; name < NAMES.length; name++) {
            for (int law = 0; law < LAWS.length; law++) {
                String ahead = LAWS[law] + " 1+";
                String behind = law == 0 ? "<2;" : ";";
                boolean isIn = in[name].charAt(law) == '1';
                String why = isIn ? "P18 a NAME of that CLAUSE" : "P19 5: a NAME that isn't of that CLAUSE (at it)";
                Edge.fault(why, ahead + NAMES[name] + behind, isIn ? 0 : 5, isIn ? -1 : ahead.length());
                Edge.fault(why + ", in brackets", LAWS[law] + " -(" + NAMES[name] + ")" + behind, isIn ? 0 : 5, isIn ? -1 : LAWS[law].length() + 3);
            }
            Edge.fault("P19 1: no NAME where a CLAUSE begins", NAMES[name] + ";", 1, 0);
            Edge.fault("P19 1: no NAME where a ; must be", "fades 1 " + NAMES[name] + ";", 1, 8);
            Edge.fault("P19 1: no NAME for a NUMBER", "try " + NAMES[name] + ";", 1, 4);
        }
        Edge.fault("P19 5: on the second side of has", "has 1<day;", 5, 6);
        Edge.fault("P19 5: of the CLAUSE it stands in", "fades day; pushes day;", 5, 18);
        Edge.fault("P19 5: of the CLAUSE it stands in", "pushes much; fades much;", 5, 19);
        Edge.fault("P19 5: 8 being open", "has 1<((((((((much))))))));", 5, 14);
    }

    private static void twentyFive() {
        for (String deed : DEEDS) {
            String all = (deed + ";").repeat(deed.length() > 10 ? 5 : 24);
            String try0 = "try 0;".repeat(deed.length() > 10 ? 19 : 0);
            Edge.fault("P18 24 at most: " + deed, all + try0, 0, -1);
            Edge.fault("P19 6: the 25th CLAUSE (at its first TOKEN): " + deed, all + try0 + deed + ";", 6, all.length() + try0.length());
        }
        String most = "try 0;".repeat(24);
        Edge.fault("P18 24, and blanks", most + " \n ", 0, -1);
        Edge.fault("P19 6: behind blanks", most + " \n try 0;", 6, 147);
        Edge.fault("P19 6: the 25th CLAUSE, whatever is behind", most + "try", 6, 144);
        Edge.fault("P19 6: the 26th isn't come to", "try 0;".repeat(30), 6, 144);
        for (String law : LAWS) {
            Edge.fault("P19 6: the 25th is a law", most + law + " 1;", 6, 144);
            String clause = law + (law.equals("has") ? " 1<2;" : " 1;");
            Edge.fault("P18 laws are CLAUSES too", clause + "try 0;".repeat(23), 0, -1);
            Edge.fault("P19 6: laws are CLAUSES too", clause + most, 6, clause.length() + 138);
            Edge.fault("P19 4 is less: the 25th is a law for the second time", clause + "try 0;".repeat(23) + law, 4, clause.length() + 138);
        }
        Edge.fault("P19 1 is less: what begins no CLAUSE, behind 24", most + ";", 1, 144);
        Edge.fault("P19 1 is less: what is no TOKEN, behind 24", most + "?", 1, 144);
        Edge.fault("P19 1 is less: a word that is none, behind 24", most + "trys 0;", 1, 144);
        Edge.fault("P19 1 is less: a NAME, behind 24", most + "turn", 1, 144);
        Edge.fault("P19 1 is less: a NUMBER above 9999, behind 24", most + "10000", 1, 144);
    }

    private static void ends() {
        String[] cut = {"has", "has 1", "has 1<", "has 1<2", "has 1<2 and", "has 1<2 or", "has not", "fades", "fades 1", "fades 1+", "fades 1*", "fades -",
            "fades root", "fades (", "fades (1", "fades (1)", "drops", "pushes", "teach", "teach 0", "teach 0 in", "teach 0 in 0", "teach 0 in 0 by",
            "teach 0 in 0 by 1", "mislead", "drink", "drink 0", "sing", "sing 0", "sing 0 of", "sing 0 of 0", "tie", "tie 0", "tie 0 at", "tie 0 at 0",
            "smell", "smell 0", "smell 0 by", "smell 0 by 0", "try", "try 0", "night", "night 1"};
        for (String text : cut) {
            Edge.fault("P19 1: of the end at the length", text, 1, text.length());
            Edge.fault("P19 1: of the end at the length, behind blanks", text + " \n ", 1, text.length() + 3);
            Edge.fault("P19 1: of the end at the length, behind a CLAUSE", "night 1;" + text, 1, text.length() + 8);
        }
    }

    private static void whatCannotStand() {
        Edge.fault("P19 1: ; by itself", ";", 1, 0);
        Edge.fault("P19 1: ; twice", "fades 1;;", 1, 8);
        Edge.fault("P19 1: no SUM", "fades ;", 1, 6);
        Edge.fault("P19 1: no SUM in brackets", "fades ();", 1, 7);
        Edge.fault("P19 1: ) too many", "fades (1));", 1, 9);
        Edge.fault("P19 1: ) too few", "fades ((1);", 1, 10);
        Edge.fault("P19 1: + of one", "fades +1;", 1, 6);
        Edge.fault("P19 1: two signs of two", "fades 1+*2;", 1, 8);
        Edge.fault("P18 + and - of one", "fades 1+-2;", 0, -1);
        Edge.fault("P19 1: an ASK for a SUM", "fades 1<2;", 1, 7);
        Edge.fault("P19 1: not in fades", "fades not 1<2;", 1, 6);
        Edge.fault("P19 1: and in fades", "fades 1 and 2;", 1, 8);
        Edge.fault("P19 1: a SUM for an ASK", "has 1;", 1, 5);
        Edge.fault("P19 1: an ASK in brackets", "has (1<2);", 1, 6);
        Edge.fault("P19 1: an ASK of three", "has 1<2<3;", 1, 7);
        Edge.fault("P19 1: not behind a sign", "has 1<not 2;", 1, 6);
        Edge.fault("P19 1: and twice", "has 1<2 and and 1<2;", 1, 12);
        Edge.fault("P19 1: or first", "has or 1<2;", 1, 4);
        Edge.fault("P19 1: or last", "has 1<2 or;", 1, 10);
        Edge.fault("P19 1: and last", "has 1<2 and;", 1, 11);
        Edge.fault("P19 1: two ASKS behind one another", "has 1<2 1<2;", 1, 8);
        Edge.fault("P19 1: not alone", "has not;", 1, 7);
        Edge.fault("P19 1: a law in a law", "fades 1 drops 1;", 1, 8);
        Edge.fault("P19 1: a law for a ONE", "fades drops;", 1, 6);
        Edge.fault("P19 1: a deed's word for a ONE", "fades in;", 1, 6);
        Edge.fault("P19 1: in begins no CLAUSE", "in 0;", 1, 0);
        Edge.fault("P19 1: root begins no CLAUSE", "root 1;", 1, 0);
        Edge.fault("P19 1: ( begins no CLAUSE", "(1);", 1, 0);
    }

    private static void deedsForms() {
        String[] links = {"in", "by", "of", "at", "and", "or", "not", "root", "turn", "has", "night", ";", "(", "-", "0", "?"};
        String[][] forms = {{"teach 0 ", "in", " 0 by 1;"}, {"teach 0 in 0 ", "by", " 1;"}, {"mislead 0 ", "in", " 0 by 1;"}, {"mislead 0 in 0 ", "by", " 1;"},
            {"sing 0 ", "of", " 0;"}, {"tie 0 ", "at", " 0;"}, {"smell 0 ", "by", " 0;"}};
        for (String[] form : forms) {
            for (String link : links) {
                boolean isIts = link.equals(form[1]);
                Edge.fault("P19 1: for " + form[1], form[0] + link + form[2], isIts ? 0 : 1, isIts ? -1 : form[0].length());
            }
        }
        for (String deed : DEEDS) {
            for (String more : links) {
                boolean isEnd = more.equals(";");
                Edge.fault("P19 1: behind a deed", deed + " " + more + ";", 1, deed.length() + (isEnd ? 2 : 1));
            }
        }
    }

    private static void theFirst() {
        Edge.fault("P19 the first as TOKENS are come to: 2 ahead of 1", "fades 10000 ?;", 2, 6);
        Edge.fault("P19 the first as TOKENS are come to: 1 ahead of 2", "fades ? 10000;", 1, 6);
        Edge.fault("P19 the first as TOKENS are come to: 5 ahead of 1", "fades much ?", 5, 6);
        Edge.fault("P19 the first as TOKENS are come to: 4 ahead of 5", "fades 1; fades much;", 4, 9);
        Edge.fault("P19 the first as TOKENS are come to: 5 ahead of 4", "fades much; fades 1;", 5, 6);
        Edge.fault("P19 the first as TOKENS are come to: 2 of two", "teach 6 in 8 by 100;", 2, 6);
        Edge.fault("P19 the first as TOKENS are come to: the second of three", "teach 5 in 8 by 100;", 2, 11);
        Edge.fault("P19 the first as TOKENS are come to: 3 ahead of 5", "has (((((((((much", 3, 12);
        Edge.fault("P19 the first as TOKENS are come to: in the second CLAUSE", "fades 1; drops 10000; ?", 2, 15);
        Edge.fault("P19 the first as TOKENS are come to: 1, though it is only the end", "fades 1", 1, 7);
        Edge.fault("P19 at the TOKEN's first byte: a word", "fades 1;   foo", 1, 11);
        Edge.fault("P19 at the TOKEN's first byte: a NUMBER", "fades \n 10000;", 2, 8);
        Edge.fault("P19 at the TOKEN's first byte: <=", "fades 1 <= 2;", 1, 8);
    }

    private static void theLeast() {
        Edge.fault("P19 of one the least: 1, not 3", "fades ((((((((1((1", 1, 15);
        Edge.fault("P19 of one the least: 1, not 4", "fades 1; drops fades;", 1, 15);
        Edge.fault("P19 of one the least: 1, not 5", "fades 1 much;", 1, 8);
        Edge.fault("P19 of one the least: 1, not 2", "drops 1 65536;", 1, 8);
        Edge.fault("P19 of one the least: 4, not 6", "drops 1;" + "try 0;".repeat(23) + "drops", 4, 146);
    }
}
