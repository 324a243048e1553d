/** A guild that lets a man go only when he has forgotten its turns: see ../shared/DOC.md. */
public final class UnlearnedHand {
    public static final int NONE = -1;

    private static final int MOST_TURNS = 8;
    private static final int MOST_MEN = 6;
    private static final int MOST_SMELLS = 6;
    private static final int MOST_DONE = 8;
    private static final int MOST_TEXTS = 4;
    private static final int MOST_STEPS = 30;
    private static final int MOST_BYTES = 300;
    private static final int MOST_CLAUSES = 24;
    private static final int MOST_NIGHTS = 60;
    private static final int MOST_LESSONS = 4;
    private static final int FULL = 99;
    private static final int LAST_DAY = 999;
    private static final int DAYS_TO_TRIAL = 30;
    private static final int OTHERS = -2;
    private static final int OTHERS_HAND = -100;

    /* The tokens of a text: a word's token is its place in this row. */
    private static final String WORDS = "has fades drops pushes teach mislead drink sing tie smell try night turn pride right wrong worth day sung tied much or and not root in by of at";
    private static final int HAS = 0;
    private static final int FADES = 1;
    private static final int DROPS = 2;
    private static final int PUSHES = 3;
    private static final int TEACH = 4;
    private static final int MISLEAD = 5;
    private static final int DRINK = 6;
    private static final int SING = 7;
    private static final int TIE = 8;
    private static final int SMELL = 9;
    private static final int TRY = 10;
    private static final int NIGHT = 11;
    private static final int TURN = 12;
    private static final int WORTH = 16;
    private static final int DAY = 17;
    private static final int SUNG = 18;
    private static final int TIED = 19;
    private static final int MUCH = 20;
    private static final int OR = 21;
    private static final int AND = 22;
    private static final int NOT = 23;
    private static final int ROOT = 24;
    private static final int IN = 25;
    private static final int BY = 26;
    private static final int OF = 27;
    private static final int AT = 28;
    /* A sign's token is its place in this row, behind the words. */
    private static final String SIGNS = "<>=#+-*/();";
    private static final int LESS = 29;
    private static final int MORE = 30;
    private static final int EQUAL = 31;
    private static final int UNLIKE = 32;
    private static final int PLUS = 33;
    private static final int MINUS = 34;
    private static final int TIMES = 35;
    private static final int OVER = 36;
    private static final int OPEN = 37;
    private static final int CLOSE = 38;
    private static final int CLAUSE_END = 39;
    private static final int NOT_MORE = 40;
    private static final int NOT_LESS = 41;
    private static final int NUMBER = 42;
    private static final int NO_TOKEN = 43;
    private static final int TEXT_END = 44;
    /* No token of its own, as a text writes it like MINUS. */
    private static final int NEGATE = 45;

    private final Guild guild;
    private final Guild keptGuild;
    private final Hands hands;
    private final Hands keptHands;
    private final Steps steps;
    private final Steps keptSteps;
    private final Script[] scripts;
    private final char[] tape;
    private int tapeLength;
    private final Reader reader;
    private final Laws laws;
    private final Deeds deeds;
    private final Foresight foresight;
    private final Reckoning reckoning;
    private final Orders orders;

    public UnlearnedHand() {
        Guild newGuild = new Guild();
        Hands newHands = new Hands();
        Script[] newScripts = new Script[MOST_TEXTS];
        for (int i = 0; i < newScripts.length; i++) {
            newScripts[i] = new Script();
        }
        Laws newLaws = new Laws(newGuild, newScripts);
        Deeds newDeeds = new Deeds(newGuild, newLaws);
        guild = newGuild;
        keptGuild = new Guild();
        hands = newHands;
        keptHands = new Hands();
        steps = new Steps();
        keptSteps = new Steps();
        scripts = newScripts;
        tape = new char[MOST_BYTES];
        reader = new Reader();
        laws = newLaws;
        deeds = newDeeds;
        foresight = new Foresight(newGuild, newHands, newLaws, newDeeds);
        reckoning = new Reckoning(newGuild, newHands, newLaws);
        orders = new Orders(newGuild, newHands);
    }

    public int turn(int worth) {
        return worth < 1 || worth > FULL ? NONE : guild.addTurn(worth);
    }

    public boolean leads(int from, int to) {
        return guild.addLead(from, to);
    }

    public int man(int pride) {
        return pride < 0 || pride > 9 ? NONE : guild.addMan(pride);
    }

    public int smell(int turns) {
        return turns == 0 || !guild.tellsTurns(turns) ? NONE : guild.addSmell(turns);
    }

    public boolean allow(int turns) {
        if (turns < 0 || turns > MOST_TURNS) {
            return false;
        }
        guild.allowed = turns;
        return true;
    }

    public int teach(int man, int turn, int k) {
        if (!guild.tellsBoth(man, turn) || k < 1 || k > FULL || !hands.isTeachable(man, turn)) {
            return NONE;
        }
        steps.keep(hands);
        hands.setRight(man, turn, hands.rightOf(man, turn) + k);
        return hands.rightOf(man, turn);
    }

    public int mislead(int man, int turn, int k) {
        if (!guild.tellsBoth(man, turn) || k < 1 || k > FULL || hands.isFree(man)) {
            return NONE;
        }
        steps.keep(hands);
        deeds.misleadMan(hands, man, turn, k);
        return hands.rightOf(man, turn);
    }

    public boolean drink(int man) {
        if (!guild.tellsMan(man) || hands.isFree(man)) {
            return false;
        }
        steps.keep(hands);
        hands.drinkAway(man);
        return true;
    }

    public boolean sing(int man, int turn, boolean is) {
        if (!guild.tellsBoth(man, turn) || hands.isFree(man) || hands.isSung(man, turn) == is) {
            return false;
        }
        steps.keep(hands);
        hands.turnSong(man, turn);
        return true;
    }

    public boolean tie(int man, int turn) {
        boolean known = turn == NONE ? guild.tellsMan(man) : guild.tellsBoth(man, turn);
        if (!known || hands.isFree(man) || hands.tiedAt(man) == turn) {
            return false;
        }
        steps.keep(hands);
        hands.setTied(man, turn);
        return true;
    }

    public int smelt(int man, int smell) {
        if (!guild.tellsMan(man) || !guild.tellsSmell(smell) || hands.isFree(man)) {
            return NONE;
        }
        steps.keep(hands);
        int turns = guild.comesBack(1 << smell);
        hands.bringBack(man, turns);
        return turns;
    }

    public int tried(int man) {
        if (!guild.tellsMan(man) || hands.isFree(man)) {
            return NONE;
        }
        steps.keep(hands);
        return deeds.tryMan(hands, man);
    }

    public int night(int n) {
        if (n < 1 || n > MOST_NIGHTS || hands.day + n > LAST_DAY) {
            return NONE;
        }
        passNights(n);
        return hands.countFree(guild.men);
    }

    /** Passes as many of the nights as there can be: whether all could. */
    private boolean passNights(int n) {
        int can = Math.min(n, LAST_DAY - hands.day);
        for (int i = 0; i < can; i++) {
            steps.keep(hands);
            deeds.passNight(hands, 0, guild.men);
        }
        return can == n;
    }

    public int winters(int seed, int n) {
        if (seed < 0 || seed > 9999 || n < 1 || n > 30 || guild.men < 1 || guild.turns < 1) {
            return NONE;
        }
        steps.keep(hands);
        hands.x = seed * 2 + 73;
        for (int i = 0; i < n; i++) {
            deeds.drawDeed(hands);
        }
        return hands.countFree(guild.men);
    }

    public int feed(int a, int b, int c, int d, int e) {
        if (tapeLength + 20 > tape.length) {
            return NONE;
        }
        feedFour(a);
        feedFour(b);
        feedFour(c);
        feedFour(d);
        feedFour(e);
        return tapeLength;
    }

    private void feedFour(int bytes) {
        for (int shift = 24; shift >= 0; shift -= 8) {
            if (tapeLength >= 0 && tapeLength < tape.length) {
                tape[tapeLength] = (char) ((bytes >>> shift) & 255);
                tapeLength++;
            }
        }
    }

    public int end(int n) {
        if (n < 0 || n > tapeLength) {
            return NONE;
        }
        tapeLength = n;
        return n;
    }

    public int text() {
        int text = guild.texts;
        if (text < 0 || text >= scripts.length) {
            return NONE;
        }
        boolean isGood = reader.read(tape, tapeLength, scripts[text]);
        tapeLength = 0;
        if (!isGood) {
            return NONE;
        }
        guild.texts = text + 1;
        return text;
    }

    public int fault(int what) {
        if (!reader.hasRead || what < 0 || what > 1) {
            return NONE;
        }
        return what == 0 ? reader.fault : reader.faultPlace;
    }

    public boolean by(int text) {
        if (text != NONE && !guild.tellsText(text)) {
            return false;
        }
        guild.ruling = text;
        return true;
    }

    public int played(int text) {
        if (!guild.tellsText(text) || text >= scripts.length || scripts[text] == null) {
            return OTHERS;
        }
        Script script = scripts[text];
        for (int clause = 0; clause < script.clauses; clause++) {
            boolean isNights = script.kindOf(clause) == NIGHT;
            if (isNights ? !passNights(script.numberOf(clause, 0)) : !playDeed(script, clause)) {
                return clause;
            }
        }
        return NONE;
    }

    /** Does a clause but nights, as by hand: whether it could be; a law asks for nothing. */
    private boolean playDeed(Script script, int clause) {
        int first = script.numberOf(clause, 0);
        int second = script.numberOf(clause, 1);
        int third = script.numberOf(clause, 2);
        switch (script.kindOf(clause)) {
            case TEACH:
                return teach(first, second, third) != NONE;
            case MISLEAD:
                return mislead(first, second, third) != NONE;
            case DRINK:
                return drink(first);
            case SING:
                return sing(first, second, !hands.isSung(first, second));
            case TIE:
                return tie(first, second);
            case SMELL:
                return smelt(second, first) != NONE;
            case TRY:
                return tried(first) != NONE;
            default:
                return true;
        }
    }

    public int undo() {
        return steps.takeBack(hands);
    }

    public int of(int man, int what) {
        if (!guild.tellsMan(man)) {
            return OTHERS;
        }
        switch (what) {
            case 0:
                return guild.prideOf(man);
            case 1:
                return laws.turnsOf(hands, man);
            case 2:
                return hands.songsOf(man);
            case 3:
                return hands.tiedAt(man);
            case 4:
                return hands.isFree(man) ? 1 : 0;
            default:
                return OTHERS;
        }
    }

    public int hand(int man, int turn, int what) {
        if (!guild.tellsBoth(man, turn)) {
            return OTHERS_HAND;
        }
        switch (what) {
            case 0:
                return hands.rightOf(man, turn);
            case 1:
                return hands.wrongOf(man, turn);
            case 2:
                return hands.bestOf(man, turn);
            case 3:
                return laws.valueOf(FADES, hands, man, turn, 0);
            case 4:
                return laws.valueOf(DROPS, hands, man, turn, 0);
            default:
                return OTHERS_HAND;
        }
    }

    public int ofTurn(int turn, int what) {
        if (!guild.tellsTurn(turn) || what < 0 || what > 1) {
            return NONE;
        }
        return what == 0 ? guild.worthOf(turn) : guild.leadsOf(turn);
    }

    public int foretold(int n, int man) {
        if (n < 1 || n > MOST_NIGHTS || !guild.tellsMan(man)) {
            return NONE;
        }
        return foresight.turnsThen(n, man);
    }

    public int free(int n, int man) {
        if (n < 1 || n > MOST_NIGHTS || !guild.tellsMan(man)) {
            return NONE;
        }
        return foresight.nightsToFree(n, man);
    }

    public int lasts(int man, int turn) {
        return guild.tellsBoth(man, turn) ? foresight.nightsOf(man, turn) : NONE;
    }

    public int wrongs(int man, int n, int k, int b, int i) {
        if (!guild.tellsMan(man) || hands.isFree(man) || n < 1 || n > MOST_LESSONS) {
            return NONE;
        }
        if (k < 1 || k > FULL || b < 0 || b > MOST_TURNS || i < NONE || i >= n) {
            return NONE;
        }
        foresight.weighLessons(man, n, k);
        return foresight.fewLessons(n, b, i);
    }

    public int done(int turn, boolean right) {
        if (turn == NONE) {
            guild.doneCount = 0;
            return 0;
        }
        return guild.tellsTurn(turn) && guild.addDone(turn, right) ? guild.doneCount : OTHERS;
    }

    public int sets(boolean shams, int i) {
        return reckoning.setsByDone(shams, i);
    }

    public long shammed(int man, int p, int q, boolean low) {
        if (!guild.tellsMan(man) || p < 0 || p > 10 || q < 0 || q > 10) {
            return NONE;
        }
        return reckoning.shamOdds(man, p, q, low);
    }

    public int halves(int one, int other, int what) {
        if (!guild.tellsMan(one) || !guild.tellsMan(other) || one == other) {
            return NONE;
        }
        int ones = laws.turnsOf(hands, one);
        int others = laws.turnsOf(hands, other);
        switch (what) {
            case 0:
                return ones & ~others;
            case 1:
                return others & ~ones;
            case 2:
                return ones & others;
            case 3:
                return guild.allTurns() & ~(ones | others);
            default:
                return NONE;
        }
    }

    public int back(int smells) {
        return guild.tellsSmells(smells) ? guild.comesBack(smells) : NONE;
    }

    public int fewSmells(int turns) {
        return guild.tellsTurns(turns) ? reckoning.fewestSmells(turns) : NONE;
    }

    public long trial(int man, int turns, int i) {
        int size = Integer.bitCount(turns);
        if (!guild.tellsMan(man) || !guild.tellsTurns(turns) || size < 1 || size > 5 || i < -2 || i >= size) {
            return OTHERS_HAND;
        }
        return orders.cheapestTrial(man, turns, i);
    }

    public int told(int turns, int i) {
        int size = Integer.bitCount(turns);
        if (!guild.tellsTurns(turns) || size < 1 || size > 6 || i < NONE || i >= size) {
            return NONE;
        }
        return orders.tellings(turns, i);
    }

    public int spies(int turns) {
        return guild.tellsTurns(turns) ? reckoning.fewestSpies(turns) : NONE;
    }

    public int sold(int n) {
        return n < 1 || n > MOST_MEN ? NONE : reckoning.mostSold(n);
    }

    public int image() {
        keptGuild.copyFrom(guild);
        keptHands.copyFrom(hands);
        keptSteps.copyFrom(steps);
        return hands.day;
    }

    public int again() {
        guild.copyFrom(keptGuild);
        hands.copyFrom(keptHands);
        steps.copyFrom(keptSteps);
        return hands.day;
    }

    public int about(int what) {
        switch (what) {
            case 0:
                return guild.turns;
            case 1:
                return guild.men;
            case 2:
                return guild.smells;
            case 3:
                return hands.day;
            case 4:
                return hands.x;
            case 5:
                return guild.texts;
            case 6:
                return guild.ruling;
            case 7:
                return steps.count;
            case 8:
                return guild.doneCount;
            case 9:
                return guild.allowed;
            case 10:
                return tapeLength;
            default:
                return OTHERS;
        }
    }

    /** All that is told; no step takes it back. */
    private static final class Guild {
        private final int[] worth = new int[MOST_TURNS];
        private final int[] leads = new int[MOST_TURNS];
        private final int[] pride = new int[MOST_MEN];
        private final int[] smelling = new int[MOST_SMELLS];
        private final int[] doneTurn = new int[MOST_DONE];
        private int turns;
        private int men;
        private int smells;
        private int doneCount;
        /* The bit of each of DONE that was done right. */
        private int doneRights;
        private int allowed;
        private int texts;
        private int ruling = NONE;

        void copyFrom(Guild other) {
            System.arraycopy(other.worth, 0, worth, 0, MOST_TURNS);
            System.arraycopy(other.leads, 0, leads, 0, MOST_TURNS);
            System.arraycopy(other.pride, 0, pride, 0, MOST_MEN);
            System.arraycopy(other.smelling, 0, smelling, 0, MOST_SMELLS);
            System.arraycopy(other.doneTurn, 0, doneTurn, 0, MOST_DONE);
            turns = other.turns;
            men = other.men;
            smells = other.smells;
            doneCount = other.doneCount;
            doneRights = other.doneRights;
            allowed = other.allowed;
            texts = other.texts;
            ruling = other.ruling;
        }

        boolean tellsTurn(int turn) {
            return turn >= 0 && turn < turns && turn < MOST_TURNS;
        }

        boolean tellsMan(int man) {
            return man >= 0 && man < men && man < MOST_MEN;
        }

        boolean tellsBoth(int man, int turn) {
            return tellsMan(man) && tellsTurn(turn);
        }

        boolean tellsSmell(int smell) {
            return smell >= 0 && smell < smells && smell < MOST_SMELLS;
        }

        boolean tellsText(int text) {
            return text >= 0 && text < texts;
        }

        int allTurns() {
            return (1 << turns) - 1;
        }

        boolean tellsTurns(int set) {
            return (set & ~allTurns()) == 0;
        }

        boolean tellsSmells(int set) {
            return (set & ~((1 << smells) - 1)) == 0;
        }

        int addTurn(int itsWorth) {
            if (turns < 0 || turns >= MOST_TURNS) {
                return NONE;
            }
            worth[turns] = itsWorth;
            leads[turns] = 0;
            turns++;
            return turns - 1;
        }

        boolean addLead(int from, int to) {
            if (!tellsTurn(from) || !tellsTurn(to) || from == to || (leads[from] >> to & 1) != 0) {
                return false;
            }
            leads[from] |= 1 << to;
            return true;
        }

        int addMan(int itsPride) {
            if (men < 0 || men >= MOST_MEN) {
                return NONE;
            }
            pride[men] = itsPride;
            men++;
            return men - 1;
        }

        int addSmell(int set) {
            if (smells < 0 || smells >= MOST_SMELLS) {
                return NONE;
            }
            smelling[smells] = set;
            smells++;
            return smells - 1;
        }

        boolean addDone(int turn, boolean right) {
            if (doneCount < 0 || doneCount >= MOST_DONE) {
                return false;
            }
            doneTurn[doneCount] = turn;
            doneRights = right ? doneRights | 1 << doneCount : doneRights & ~(1 << doneCount);
            doneCount++;
            return true;
        }

        boolean wasDoneRight(int i) {
            return (doneRights >> i & 1) != 0;
        }

        int worthOf(int turn) {
            return tellsTurn(turn) ? worth[turn] : 0;
        }

        int leadsOf(int turn) {
            return tellsTurn(turn) ? leads[turn] : 0;
        }

        int prideOf(int man) {
            return tellsMan(man) ? pride[man] : 0;
        }

        int worthOfAll(int set) {
            int sum = 0;
            for (int turn = 0; turn < turns && turn < MOST_TURNS; turn++) {
                sum += (set >> turn & 1) * worth[turn];
            }
            return sum;
        }

        /** The turns that lead to this one. */
        int leadersOf(int turn) {
            int leaders = 0;
            for (int from = 0; from < turns && from < MOST_TURNS; from++) {
                leaders |= (leads[from] >> turn & 1) << from;
            }
            return leaders;
        }

        /** What a set of smells brings back, with all that the leads come to. */
        int comesBack(int smellSet) {
            int set = 0;
            for (int smell = 0; smell < smells && smell < MOST_SMELLS; smell++) {
                set |= (smellSet >> smell & 1) != 0 ? smelling[smell] : 0;
            }
            // Each round reaches one lead farther, and no way is longer than there are turns.
            for (int round = 0; round < turns; round++) {
                for (int turn = 0; turn < turns && turn < MOST_TURNS; turn++) {
                    set |= (set >> turn & 1) != 0 ? leads[turn] : 0;
                }
            }
            return set;
        }

        /** The turns that were done so. */
        int doneAs(boolean right) {
            int set = 0;
            for (int i = 0; i < doneCount && i < MOST_DONE; i++) {
                set |= wasDoneRight(i) == right ? 1 << doneTurn[i] : 0;
            }
            return set;
        }
    }

    /** What a step takes back: what the men hold, the day and X. */
    private static final class Hands {
        private final int[] right = new int[MOST_MEN * MOST_TURNS];
        private final int[] wrong = new int[MOST_MEN * MOST_TURNS];
        private final int[] best = new int[MOST_MEN * MOST_TURNS];
        /* The turns (bits) that a man has sung. */
        private final int[] songs = new int[MOST_MEN];
        private final int[] tied = new int[MOST_MEN];
        /* The men (bits) that are free. */
        private int free;
        private int day;
        private int x = 73;

        Hands() {
            for (int man = 0; man < tied.length; man++) {
                tied[man] = NONE;
            }
        }

        void copyFrom(Hands other) {
            System.arraycopy(other.right, 0, right, 0, MOST_MEN * MOST_TURNS);
            System.arraycopy(other.wrong, 0, wrong, 0, MOST_MEN * MOST_TURNS);
            System.arraycopy(other.best, 0, best, 0, MOST_MEN * MOST_TURNS);
            System.arraycopy(other.songs, 0, songs, 0, MOST_MEN);
            System.arraycopy(other.tied, 0, tied, 0, MOST_MEN);
            free = other.free;
            day = other.day;
            x = other.x;
        }

        /** The place of a man's turn in the rows; none for a man or a turn that can't be. */
        static int placeOf(int man, int turn) {
            if (man < 0 || man >= MOST_MEN || turn < 0 || turn >= MOST_TURNS) {
                return NONE;
            }
            return man * MOST_TURNS + turn;
        }

        int rightOf(int man, int turn) {
            int place = placeOf(man, turn);
            return place < 0 ? 0 : right[place];
        }

        int wrongOf(int man, int turn) {
            int place = placeOf(man, turn);
            return place < 0 ? 0 : wrong[place];
        }

        int bestOf(int man, int turn) {
            int place = placeOf(man, turn);
            return place < 0 ? 0 : best[place];
        }

        boolean isSung(int man, int turn) {
            return placeOf(man, turn) >= 0 && (songs[man] >> turn & 1) != 0;
        }

        int tiedAt(int man) {
            return man < 0 || man >= MOST_MEN ? NONE : tied[man];
        }

        boolean isFree(int man) {
            return man >= 0 && man < MOST_MEN && (free >> man & 1) != 0;
        }

        boolean isTeachable(int man, int turn) {
            return !isFree(man) && tiedAt(man) != turn;
        }

        void setRight(int man, int turn, int value) {
            int place = placeOf(man, turn);
            if (place >= 0) {
                right[place] = value < 0 ? 0 : value > FULL ? FULL : value;
                best[place] = Math.max(best[place], right[place]);
            }
        }

        void setWrong(int man, int turn, int value) {
            int place = placeOf(man, turn);
            if (place >= 0) {
                wrong[place] = value < 0 ? 0 : value > FULL ? FULL : value;
            }
        }

        void turnSong(int man, int turn) {
            if (placeOf(man, turn) >= 0) {
                songs[man] ^= 1 << turn;
            }
        }

        void setTied(int man, int turn) {
            if (man >= 0 && man < MOST_MEN) {
                tied[man] = turn;
            }
        }

        void setFree(int man) {
            free |= 1 << man;
        }

        void drinkAway(int man) {
            for (int turn = 0; turn < MOST_TURNS; turn++) {
                if (!isSung(man, turn)) {
                    setRight(man, turn, rightOf(man, turn) - 3);
                }
            }
        }

        void bringBack(int man, int turns) {
            for (int turn = 0; turn < MOST_TURNS; turn++) {
                if ((turns >> turn & 1) != 0) {
                    setRight(man, turn, bestOf(man, turn));
                }
            }
        }

        int songsOf(int man) {
            return man < 0 || man >= MOST_MEN ? 0 : songs[man];
        }

        int countFree(int men) {
            int count = 0;
            for (int man = 0; man < men; man++) {
                count += isFree(man) ? 1 : 0;
            }
            return count;
        }
    }

    /** The hands as they were ahead of the latest steps, in a ring. */
    private static final class Steps {
        private final Hands[] ring = new Hands[MOST_STEPS];
        private int next;
        private int count;

        Steps() {
            for (int i = 0; i < ring.length; i++) {
                ring[i] = new Hands();
            }
        }

        void copyFrom(Steps other) {
            for (int i = 0; i < MOST_STEPS; i++) {
                if (ring[i] != null && other.ring[i] != null) {
                    ring[i].copyFrom(other.ring[i]);
                }
            }
            next = other.next;
            count = other.count;
        }

        void keep(Hands hands) {
            if (next >= 0 && next < MOST_STEPS && ring[next] != null) {
                ring[next].copyFrom(hands);
                next = (next + 1) % MOST_STEPS;
                count = Math.min(count + 1, MOST_STEPS);
            }
        }

        int takeBack(Hands hands) {
            int latest = (next + MOST_STEPS - 1) % MOST_STEPS;
            if (count < 1 || latest < 0 || latest >= MOST_STEPS || ring[latest] == null) {
                return NONE;
            }
            hands.copyFrom(ring[latest]);
            next = latest;
            count--;
            return count;
        }
    }

    /**
     * A text as it was read: its clauses, and its laws as rows of code: a number stands for itself, what is
     * below 0 for a name or for what is done to the values ahead of it (its token with the sign changed).
     */
    private static final class Script {
        private final int[] code = new int[MOST_BYTES];
        private int codes;
        private final int[] lawFrom = new int[4];
        private final int[] lawTo = new int[4];
        private final int[] kind = new int[MOST_CLAUSES];
        private final int[] number = new int[MOST_CLAUSES * 3];
        private int clauses;

        void clear() {
            codes = 0;
            clauses = 0;
            for (int law = 0; law < 4; law++) {
                lawFrom[law] = NONE;
                lawTo[law] = NONE;
            }
        }

        boolean hasLaw(int law) {
            return law >= 0 && law < 4 && lawFrom[law] >= 0;
        }

        void beginLaw(int law) {
            if (law >= 0 && law < 4) {
                lawFrom[law] = codes;
            }
        }

        void endLaw(int law) {
            if (law >= 0 && law < 4) {
                lawTo[law] = codes;
            }
        }

        void addCode(int value) {
            if (codes >= 0 && codes < MOST_BYTES) {
                code[codes] = value;
                codes++;
            }
        }

        void addClause(int itsKind) {
            if (clauses >= 0 && clauses < MOST_CLAUSES) {
                kind[clauses] = itsKind;
                clauses++;
            }
        }

        void setNumber(int which, int value) {
            int place = (clauses - 1) * 3 + which;
            if (place >= 0 && place < number.length) {
                number[place] = value;
            }
        }

        int kindOf(int clause) {
            return clause >= 0 && clause < MOST_CLAUSES ? kind[clause] : HAS;
        }

        int numberOf(int clause, int which) {
            int place = clause * 3 + which;
            return place >= 0 && place < number.length ? number[place] : NONE;
        }
    }

    /** Reads a tape into a script: first all its tokens, then the clauses that they make. */
    private static final class Reader {
        private static final int MOST_OPEN = 8;
        private static final int NUMBER_LIMIT = 9999;

        private final int[] tokenKind = new int[MOST_BYTES + 1];
        private final int[] tokenNumber = new int[MOST_BYTES + 1];
        private final int[] tokenPlace = new int[MOST_BYTES + 1];
        private int tokens;
        private int at;
        private int law;
        private Script script;
        private boolean hasRead;
        private int fault;
        private int faultPlace = NONE;

        boolean read(char[] tape, int length, Script into) {
            if (tape == null || into == null || length > tape.length) {
                return false;
            }
            hasRead = true;
            fault = 0;
            faultPlace = NONE;
            script = into;
            script.clear();
            findTokens(tape, length);
            at = 0;
            for (int i = 0; i < tokens && token() != TEXT_END; i++) {
                readClause();
            }
            return fault == 0;
        }

        private void findTokens(char[] tape, int length) {
            tokens = 0;
            int next;
            for (int from = 0; from < length && from < tape.length; from = next) {
                char c = tape[from];
                next = from + 1;
                if (isLetter(c)) {
                    while (next < length && next < tape.length && isLetter(tape[next])) {
                        next++;
                    }
                    addToken(wordToken(tape, from, next), 0, from);
                } else if (isDigit(c)) {
                    while (next < length && next < tape.length && isDigit(tape[next])) {
                        next++;
                    }
                    addToken(NUMBER, numberValue(tape, from, next), from);
                } else if (c != ' ' && c != '\n') {
                    int sign = signToken(c, next < length && next < tape.length ? tape[next] : ' ');
                    addToken(sign, 0, from);
                    next += sign == NOT_MORE || sign == NOT_LESS ? 1 : 0;
                }
            }
            addToken(TEXT_END, 0, length);
        }

        private void addToken(int kind, int number, int place) {
            if (tokens >= 0 && tokens < tokenKind.length) {
                tokenKind[tokens] = kind;
                tokenNumber[tokens] = number;
                tokenPlace[tokens] = place;
                tokens++;
            }
        }

        private static boolean isLetter(char c) {
            return c >= 'a' && c <= 'z' || c >= 'A' && c <= 'Z';
        }

        private static boolean isDigit(char c) {
            return c >= '0' && c <= '9';
        }

        private static int numberValue(char[] tape, int from, int to) {
            int value = 0;
            for (int i = from; i < to && i >= 0 && i < tape.length; i++) {
                value = Math.min(value * 10 + (tape[i] - '0'), NUMBER_LIMIT + 1);
            }
            return value;
        }

        private static int signToken(char sign, char behind) {
            if (behind == '=' && sign == '<') {
                return NOT_MORE;
            }
            if (behind == '=' && sign == '>') {
                return NOT_LESS;
            }
            int place = SIGNS.indexOf(sign);
            return place < 0 ? NO_TOKEN : LESS + place;
        }

        private static int wordToken(char[] tape, int from, int to) {
            int word = 0;
            int start = 0;
            for (int i = 0; i <= WORDS.length(); i++) {
                if (i == WORDS.length() || WORDS.charAt(i) == ' ') {
                    if (i - start == to - from && isWordAt(start, tape, from, to)) {
                        return word;
                    }
                    word++;
                    start = i + 1;
                }
            }
            return NO_TOKEN;
        }

        private static boolean isWordAt(int start, char[] tape, int from, int to) {
            for (int i = from; i < to; i++) {
                int place = start + i - from;
                if (i < 0 || i >= tape.length || place < 0 || place >= WORDS.length()) {
                    return false;
                }
                if (tape[i] != WORDS.charAt(place)) {
                    return false;
                }
            }
            return true;
        }

        /** The token that is come to; the end, as soon as there is a fault, so that all reading ends. */
        private int token() {
            return fault == 0 && at >= 0 && at < tokens && at < tokenKind.length ? tokenKind[at] : TEXT_END;
        }

        private void fail(int what) {
            if (fault == 0 && at >= 0 && at < tokenPlace.length) {
                fault = what;
                faultPlace = tokenPlace[at];
            }
        }

        private void expect(int kind) {
            if (token() == kind) {
                at++;
            } else {
                fail(1);
            }
        }

        private void readClause() {
            int kind = token();
            if (kind < HAS || kind > NIGHT) {
                fail(1);
            } else if (script.hasLaw(kind)) {
                fail(4);
            } else if (script.clauses >= MOST_CLAUSES) {
                fail(6);
            } else {
                script.addClause(kind);
                at++;
                law = kind;
                script.beginLaw(kind);
                if (kind == HAS) {
                    readEither();
                } else if (kind <= PUSHES) {
                    readSum(0);
                } else {
                    readDeed(kind);
                }
                script.endLaw(kind);
                expect(CLAUSE_END);
            }
        }

        private void readDeed(int kind) {
            switch (kind) {
                case TEACH:
                case MISLEAD:
                    readNumber(0, 0, MOST_MEN - 1);
                    expect(IN);
                    readNumber(1, 0, MOST_TURNS - 1);
                    expect(BY);
                    readNumber(2, 1, FULL);
                    break;
                case SING:
                case TIE:
                    readNumber(0, 0, MOST_MEN - 1);
                    expect(kind == SING ? OF : AT);
                    readNumber(1, 0, MOST_TURNS - 1);
                    break;
                case SMELL:
                    readNumber(0, 0, MOST_SMELLS - 1);
                    expect(BY);
                    readNumber(1, 0, MOST_MEN - 1);
                    break;
                case NIGHT:
                    readNumber(0, 1, MOST_NIGHTS);
                    break;
                default:
                    readNumber(0, 0, MOST_MEN - 1);
                    break;
            }
        }

        private void readNumber(int which, int low, int high) {
            if (token() != NUMBER) {
                fail(1);
            } else if (numberHere() < low || numberHere() > high) {
                fail(2);
            } else {
                script.setNumber(which, numberHere());
                at++;
            }
        }

        private int numberHere() {
            return at >= 0 && at < tokenNumber.length ? tokenNumber[at] : 0;
        }

        private void readEither() {
            readAsk();
            // An or waits for the ands behind it, which come first.
            boolean orWaits = false;
            for (int i = 0; i < tokens && (token() == AND || token() == OR); i++) {
                int word = token();
                at++;
                if (word == OR && orWaits) {
                    script.addCode(-OR);
                }
                readAsk();
                if (word == AND) {
                    script.addCode(-AND);
                } else {
                    orWaits = true;
                }
            }
            if (orWaits) {
                script.addCode(-OR);
            }
        }

        private void readAsk() {
            int nots = 0;
            while (nots < MOST_OPEN && token() == NOT) {
                nots++;
                at++;
            }
            if (token() == NOT) {
                fail(3);
            }
            readSum(nots);
            int sign = token();
            if (sign >= LESS && sign <= UNLIKE || sign == NOT_MORE || sign == NOT_LESS) {
                at++;
                readSum(nots);
                script.addCode(-sign);
            } else {
                fail(1);
            }
            for (int i = 0; i < nots; i++) {
                script.addCode(-NOT);
            }
        }

        private void readSum(int open) {
            readOne(open);
            // A + or - waits for the * and / behind it, which come first.
            int waits = 0;
            for (int i = 0; i < tokens && token() >= PLUS && token() <= OVER; i++) {
                int sign = token();
                at++;
                boolean isProduct = sign == TIMES || sign == OVER;
                if (!isProduct && waits != 0) {
                    script.addCode(-waits);
                }
                readOne(open);
                if (isProduct) {
                    script.addCode(-sign);
                } else {
                    waits = sign;
                }
            }
            if (waits != 0) {
                script.addCode(-waits);
            }
        }

        private void readOne(int open) {
            int kind = token();
            if (kind == NUMBER && numberHere() > NUMBER_LIMIT) {
                fail(2);
            } else if (kind == NUMBER) {
                script.addCode(numberHere());
                at++;
            } else if (kind >= TURN && kind <= MUCH && !isNameOfLaw(kind)) {
                fail(5);
            } else if (kind >= TURN && kind <= MUCH) {
                script.addCode(-kind);
                at++;
            } else if (kind != OPEN && kind != ROOT && kind != MINUS) {
                fail(1);
            } else if (open >= MOST_OPEN) {
                fail(3);
            } else if (kind == OPEN) {
                at++;
                readSum(open + 1);
                if (token() == CLOSE) {
                    at++;
                } else {
                    fail(1);
                }
            } else {
                at++;
                readOne(open + 1);
                script.addCode(kind == ROOT ? -ROOT : -NEGATE);
            }
        }

        private boolean isNameOfLaw(int name) {
            if (name == DAY) {
                return law == FADES || law == DROPS;
            }
            if (name == SUNG || name == TIED) {
                return law == FADES;
            }
            return name <= WORTH || law == PUSHES;
        }
    }

    /** The laws by which turns fade, wrongs drop, a wrong pushes, and who has a turn. */
    private static final class Laws {
        private static final int MOST_VALUE = 1000000;
        private static final int MOST_OF_STACK = 64;

        private final Guild guild;
        private final Script[] scripts;
        private final int[] name = new int[MUCH - TURN + 1];
        private final int[] stack = new int[MOST_OF_STACK];

        Laws(Guild itsGuild, Script[] itsScripts) {
            guild = itsGuild;
            scripts = itsScripts;
        }

        /** The turns that a man has. */
        int turnsOf(Hands hands, int man) {
            int set = 0;
            for (int turn = 0; turn < guild.turns; turn++) {
                set |= valueOf(HAS, hands, man, turn, 0) != 0 ? 1 << turn : 0;
            }
            return set;
        }

        /** What a law says of a man and a turn (of has: 1 or 0). */
        int valueOf(int law, Hands hands, int man, int turn, int much) {
            setNames(hands, man, turn, much);
            int ruling = guild.ruling;
            Script script = ruling >= 0 && ruling < scripts.length ? scripts[ruling] : null;
            if (script == null || !script.hasLaw(law)) {
                return valueWithout(law, much);
            }
            int value = run(script, script.lawFrom[law], script.lawTo[law]);
            if (law == HAS) {
                return value;
            }
            int least = law == FADES ? -9 : 0;
            return value < least ? least : value > FULL ? FULL : value;
        }

        private void setNames(Hands hands, int man, int turn, int much) {
            int place = man * MOST_TURNS + turn;
            if (man < 0 || man >= MOST_MEN || turn < 0 || turn >= MOST_TURNS) {
                return;
            }
            name[0] = turn;
            name[1] = guild.pride[man];
            name[2] = hands.right[place];
            name[3] = hands.wrong[place];
            name[4] = guild.worth[turn];
            name[5] = hands.day;
            name[6] = hands.songs[man] >> turn & 1;
            name[7] = hands.tied[man] == turn ? 1 : 0;
            name[8] = much;
        }

        private int valueWithout(int law, int much) {
            switch (law) {
                case HAS:
                    return name[2] > name[3] ? 1 : 0;
                case FADES:
                    return 1;
                case PUSHES:
                    return much / 2;
                default:
                    return 0;
            }
        }

        private int run(Script script, int from, int to) {
            int top = 0;
            for (int i = from; i < to && i >= 0 && i < MOST_BYTES; i++) {
                int code = script.code[i];
                int token = code < 0 ? -code : NUMBER;
                boolean isValue = token == NUMBER || token >= TURN && token <= MUCH;
                boolean isOfOne = token == NOT || token == ROOT || token == NEGATE;
                int needed = isValue ? 0 : isOfOne ? 1 : 2;
                if (top < needed || top - needed >= MOST_OF_STACK) {
                    return 0;
                }
                int second = needed > 0 ? stack[top - 1] : 0;
                int first = needed > 1 ? stack[top - 2] : 0;
                top -= needed;
                if (isValue) {
                    stack[top] = code >= 0 ? code : name[token - TURN];
                } else {
                    stack[top] = isOfOne ? ofOne(token, second) : ofTwo(token, first, second);
                }
                top++;
            }
            return top > 0 ? stack[top - 1] : 0;
        }

        private static int ofOne(int token, int value) {
            if (token == NOT) {
                return value == 0 ? 1 : 0;
            }
            if (token == NEGATE) {
                return -value;
            }
            int size = value < 0 ? -value : value;
            int root = 0;
            // No value is above a million, so ten bits hold each root.
            for (int bit = 512; bit > 0; bit >>= 1) {
                root += (root + bit) * (root + bit) <= size ? bit : 0;
            }
            return value < 0 ? -root : root;
        }

        private static int ofTwo(int token, int first, int second) {
            switch (token) {
                case OR:
                    return first != 0 || second != 0 ? 1 : 0;
                case AND:
                    return first != 0 && second != 0 ? 1 : 0;
                case LESS:
                    return first < second ? 1 : 0;
                case MORE:
                    return first > second ? 1 : 0;
                case EQUAL:
                    return first == second ? 1 : 0;
                case UNLIKE:
                    return first != second ? 1 : 0;
                case NOT_MORE:
                    return first <= second ? 1 : 0;
                case NOT_LESS:
                    return first >= second ? 1 : 0;
                default:
                    break;
            }
            long value = 0;
            if (token == PLUS) {
                value = (long) first + second;
            } else if (token == MINUS) {
                value = (long) first - second;
            } else if (token == TIMES) {
                value = (long) first * second;
            } else if (second != 0) {
                value = first / second;
            }
            return value > MOST_VALUE ? MOST_VALUE : value < -MOST_VALUE ? -MOST_VALUE : (int) value;
        }
    }

    /** What is done to hands; whoever calls has seen that it can be, and keeps the step. */
    private static final class Deeds {
        private final Guild guild;
        private final Laws laws;

        Deeds(Guild itsGuild, Laws itsLaws) {
            guild = itsGuild;
            laws = itsLaws;
        }

        void misleadMan(Hands hands, int man, int turn, int k) {
            hands.setWrong(man, turn, hands.wrongOf(man, turn) + k);
            if (!hands.isSung(man, turn)) {
                int less = laws.valueOf(PUSHES, hands, man, turn, k);
                hands.setRight(man, turn, hands.rightOf(man, turn) - less);
            }
        }

        /** How many turns the man has, by which he is free or not. */
        int tryMan(Hands hands, int man) {
            int count = Integer.bitCount(laws.turnsOf(hands, man));
            if (count <= guild.allowed) {
                hands.setFree(man);
            }
            return count;
        }

        /** A night for the men from one to ahead of another: no man's night depends on the others. */
        void passNight(Hands hands, int fromMan, int toMan) {
            for (int man = fromMan; man < toMan; man++) {
                for (int turn = 0; turn < guild.turns && !hands.isFree(man); turn++) {
                    fade(hands, man, turn);
                }
            }
            hands.day++;
            if (hands.day % DAYS_TO_TRIAL != 0) {
                return;
            }
            for (int man = fromMan; man < toMan; man++) {
                if (!hands.isFree(man)) {
                    tryMan(hands, man);
                }
            }
        }

        /** What a night does to one turn: both laws see all as it is ahead of that. */
        void fade(Hands hands, int man, int turn) {
            int less = hands.isSung(man, turn) ? 0 : laws.valueOf(FADES, hands, man, turn, 0);
            int drop = laws.valueOf(DROPS, hands, man, turn, 0);
            hands.setRight(man, turn, hands.rightOf(man, turn) - less);
            hands.setWrong(man, turn, hands.wrongOf(man, turn) - drop);
        }

        /** One of the winters' deeds; all its draws are made, though it can't be done. */
        void drawDeed(Hands hands) {
            int what = draw(hands, 6);
            if (what > 3) {
                if (hands.day < LAST_DAY) {
                    passNight(hands, 0, guild.men);
                }
                return;
            }
            int man = draw(hands, guild.men);
            int turn = what < 3 ? draw(hands, guild.turns) : NONE;
            int k = what < 2 ? 1 + draw(hands, 40) : 0;
            if (hands.isFree(man)) {
                return;
            }
            if (what == 3) {
                hands.drinkAway(man);
            } else if (what == 2) {
                hands.turnSong(man, turn);
            } else if (what == 1) {
                misleadMan(hands, man, turn, k);
            } else if (hands.isTeachable(man, turn)) {
                hands.setRight(man, turn, hands.rightOf(man, turn) + k);
            }
        }

        private static int draw(Hands hands, int among) {
            int drawn = among < 1 ? 0 : hands.x % among;
            hands.x = (hands.x * 281 + 179) % 30293;
            return drawn;
        }
    }

    /** What comes in days to come, tried on hands of its own. */
    private static final class Foresight {
        private static final int LONGEST = 200;

        private final Guild guild;
        private final Hands hands;
        private final Laws laws;
        private final Deeds deeds;
        private final Hands then = new Hands();
        /* Of a turn (row) and a set of nights ahead of which it is misled: whether it is had behind all. */
        private final int[][] kept = new int[MOST_TURNS][1 << MOST_LESSONS];
        private final int[] plan = new int[MOST_LESSONS];
        private final int[] bestPlan = new int[MOST_LESSONS];

        Foresight(Guild itsGuild, Hands itsHands, Laws itsLaws, Deeds itsDeeds) {
            guild = itsGuild;
            hands = itsHands;
            laws = itsLaws;
            deeds = itsDeeds;
        }

        int turnsThen(int n, int man) {
            then.copyFrom(hands);
            for (int i = 0; i < n; i++) {
                deeds.passNight(then, man, man + 1);
            }
            return laws.turnsOf(then, man);
        }

        int nightsToFree(int n, int man) {
            then.copyFrom(hands);
            for (int nights = 0; nights <= n; nights++) {
                if (then.isFree(man)) {
                    return nights;
                }
                deeds.passNight(then, man, man + 1);
            }
            return NONE;
        }

        int nightsOf(int man, int turn) {
            then.copyFrom(hands);
            if (laws.valueOf(HAS, then, man, turn, 0) == 0) {
                return NONE;
            }
            for (int nights = 1; nights <= LONGEST && !then.isFree(man); nights++) {
                deeds.passNight(then, man, man + 1);
                if (laws.valueOf(HAS, then, man, turn, 0) == 0) {
                    return nights;
                }
            }
            return NONE;
        }

        /** Turns don't touch one another, so each is tried by itself under each set of nights. */
        void weighLessons(int man, int n, int k) {
            for (int turn = 0; turn < guild.turns && turn < MOST_TURNS; turn++) {
                for (int nights = 0; nights < 1 << n && nights < 1 << MOST_LESSONS; nights++) {
                    then.copyFrom(hands);
                    for (int night = 0; night < n; night++) {
                        if ((nights >> night & 1) != 0) {
                            deeds.misleadMan(then, man, turn, k);
                        }
                        deeds.fade(then, man, turn);
                        then.day++;
                    }
                    kept[turn][nights] = laws.valueOf(HAS, then, man, turn, 0);
                }
            }
        }

        /** The best of all plans, once the lessons are weighed: how many lessons, or the i-th night's turn. */
        int fewLessons(int n, int b, int i) {
            int choices = guild.turns + 1;
            int plans = 1;
            for (int night = 0; night < n && night < MOST_LESSONS; night++) {
                plans *= choices;
                plan[night] = 0;
            }
            int fewest = NONE;
            // The plans come in the order in which the document prefers like ones: the first one stays.
            for (int p = 0; p < plans; p++) {
                int lessons = countLessons(n);
                if ((fewest == NONE || lessons < fewest) && countKept(n) <= b) {
                    fewest = lessons;
                    System.arraycopy(plan, 0, bestPlan, 0, MOST_LESSONS);
                }
                nextPlan(n, choices);
            }
            if (fewest == NONE || i < 0 || i >= MOST_LESSONS) {
                return i == NONE ? fewest : NONE;
            }
            return bestPlan[i] == 0 ? MOST_TURNS : bestPlan[i] - 1;
        }

        private void nextPlan(int n, int choices) {
            for (int night = Math.min(n, MOST_LESSONS) - 1; night >= 0; night--) {
                plan[night]++;
                if (plan[night] < choices) {
                    return;
                }
                plan[night] = 0;
            }
        }

        private int countLessons(int n) {
            int lessons = 0;
            for (int night = 0; night < n && night < MOST_LESSONS; night++) {
                lessons += plan[night] == 0 ? 0 : 1;
            }
            return lessons;
        }

        private int countKept(int n) {
            int count = 0;
            for (int turn = 0; turn < guild.turns && turn < MOST_TURNS; turn++) {
                int nights = 0;
                for (int night = 0; night < n && night < MOST_LESSONS; night++) {
                    nights |= plan[night] == turn + 1 ? 1 << night : 0;
                }
                count += kept[turn][nights];
            }
            return count;
        }
    }

    /** What is found by going through all sets of turns, of smells or of men. */
    private static final class Reckoning {
        private final Guild guild;
        private final Hands hands;
        private final Laws laws;
        private final int[] turnsHad = new int[MOST_MEN];

        Reckoning(Guild itsGuild, Hands itsHands, Laws itsLaws) {
            guild = itsGuild;
            hands = itsHands;
            laws = itsLaws;
        }

        int setsByDone(boolean shams, int i) {
            int rights = guild.doneAs(true);
            int wrongs = shams ? 0 : guild.doneAs(false);
            int all = guild.allTurns();
            int count = 0;
            for (int set = 0; set <= all; set++) {
                if ((set & rights) == rights && (set & wrongs) == 0 && isLedTo(set)) {
                    if (count == i) {
                        return set;
                    }
                    count++;
                }
            }
            return i == NONE ? count : NONE;
        }

        private boolean isLedTo(int set) {
            for (int turn = 0; turn < guild.turns; turn++) {
                int leaders = guild.leadersOf(turn);
                if ((set >> turn & 1) != 0 && leaders != 0 && (leaders & set) == 0) {
                    return false;
                }
            }
            return true;
        }

        long shamOdds(int man, int p, int q, boolean low) {
            int had = laws.turnsOf(hands, man);
            long shams = p;
            long doesNot = 10 - p;
            for (int i = 0; i < guild.doneCount && i < MOST_DONE; i++) {
                if ((had >> guild.doneTurn[i] & 1) != 0) {
                    boolean wasRight = guild.wasDoneRight(i);
                    shams *= wasRight ? 10 - q : q;
                    doesNot *= wasRight ? 9 : 1;
                }
            }
            long all = shams + doesNot;
            long divisor = Orders.commonDivisor(shams, all);
            if (all == 0 || divisor == 0) {
                return low ? 1 : 0;
            }
            return low ? all / divisor : shams / divisor;
        }

        int fewestSmells(int turns) {
            int fewest = NONE;
            for (int set = 0; set < 1 << guild.smells; set++) {
                boolean isFewer = fewest == NONE || Integer.bitCount(set) < Integer.bitCount(fewest);
                if (isFewer && (turns & ~guild.comesBack(set)) == 0) {
                    fewest = set;
                }
            }
            return fewest;
        }

        int fewestSpies(int turns) {
            findTurnsHad();
            int best = NONE;
            for (int set = 0; set < 1 << guild.men; set++) {
                if ((turns & ~hadTogether(set)) == 0 && (best == NONE || isBetter(set, best))) {
                    best = set;
                }
            }
            return best;
        }

        private boolean isBetter(int set, int than) {
            int size = Integer.bitCount(set);
            int sizeThan = Integer.bitCount(than);
            return size < sizeThan || size == sizeThan && worthOfEach(set) > worthOfEach(than);
        }

        int mostSold(int n) {
            findTurnsHad();
            int most = 0;
            for (int set = 0; set < 1 << guild.men; set++) {
                if (Integer.bitCount(set) <= n) {
                    most = Math.max(most, guild.worthOfAll(hadTogether(set)));
                }
            }
            return most;
        }

        private void findTurnsHad() {
            for (int man = 0; man < guild.men && man < MOST_MEN; man++) {
                turnsHad[man] = laws.turnsOf(hands, man);
            }
        }

        private int hadTogether(int men) {
            int set = 0;
            for (int man = 0; man < guild.men && man < MOST_MEN; man++) {
                set |= (men >> man & 1) != 0 ? turnsHad[man] : 0;
            }
            return set;
        }

        private int worthOfEach(int men) {
            int sum = 0;
            for (int man = 0; man < guild.men && man < MOST_MEN; man++) {
                sum += (men >> man & 1) != 0 ? guild.worthOfAll(turnsHad[man]) : 0;
            }
            return sum;
        }
    }

    /** What is found by going through all orders of a set of turns, the lowest first turn first. */
    private static final class Orders {
        private static final int LONGEST = 6;
        private static final int MOST_ORDERS = 720;

        private final Guild guild;
        private final Hands hands;
        private final int[] order = new int[LONGEST];
        private final int[] bestOrder = new int[LONGEST];
        private int size;

        Orders(Guild itsGuild, Hands itsHands) {
            guild = itsGuild;
            hands = itsHands;
        }

        static long commonDivisor(long one, long other) {
            // Each two rounds halve what is left, and a long has 64 digits.
            for (int i = 0; i < 200 && other != 0; i++) {
                long rest = one % other;
                one = other;
                other = rest;
            }
            return one;
        }

        /** The mean's upper (i -2), the lower one (i -1), or the i-th turn. */
        long cheapestTrial(int man, int turns, int i) {
            long least = -1;
            boolean isMore = firstOrder(turns);
            for (int o = 0; o < MOST_ORDERS && isMore; o++) {
                long cost = costOf(man);
                if (least < 0 || cost < least) {
                    least = cost;
                    System.arraycopy(order, 0, bestOrder, 0, LONGEST);
                }
                isMore = nextOrder();
            }
            if (i >= 0) {
                return i < size && i < LONGEST ? bestOrder[i] : OTHERS_HAND;
            }
            long parts = 1;
            for (int k = 1; k < size; k++) {
                parts *= 100;
            }
            long divisor = commonDivisor(least, parts);
            if (divisor == 0) {
                return OTHERS_HAND;
            }
            return i == -2 ? least / divisor : parts / divisor;
        }

        /** The mean cost of the order, in parts of 100 to the power of one less than its length. */
        private long costOf(int man) {
            long cost = 0;
            long parts = 1;
            for (int k = Math.min(size, LONGEST) - 1; k >= 0; k--) {
                long misses = 100 - hands.rightOf(man, order[k]);
                cost = guild.worthOf(order[k]) * parts + misses * cost;
                parts *= 100;
            }
            return cost;
        }

        /** How many orders can have been told (i NONE), or the i-th turn of the first. */
        int tellings(int turns, int i) {
            int count = 0;
            boolean isMore = firstOrder(turns);
            for (int o = 0; o < MOST_ORDERS && isMore; o++) {
                if (isTelling(turns)) {
                    if (i >= 0) {
                        return i < size && i < LONGEST ? order[i] : NONE;
                    }
                    count++;
                }
                isMore = nextOrder();
            }
            return i == NONE ? count : NONE;
        }

        private boolean isTelling(int turns) {
            int told = 0;
            for (int k = 0; k < size && k < LONGEST; k++) {
                int leaders = guild.leadersOf(order[k]) & turns;
                if (leaders != 0 && (leaders & told) == 0) {
                    return false;
                }
                told |= 1 << order[k];
            }
            return true;
        }

        private boolean firstOrder(int turns) {
            size = 0;
            for (int turn = 0; turn < MOST_TURNS; turn++) {
                if ((turns >> turn & 1) != 0 && size < LONGEST) {
                    order[size] = turn;
                    size++;
                }
            }
            return size > 0;
        }

        /** The next order behind this one, as a book of words would have it; false behind the last. */
        private boolean nextOrder() {
            int last = Math.min(size, LONGEST) - 1;
            int rise = last - 1;
            while (rise >= 0 && order[rise] > order[rise + 1]) {
                rise--;
            }
            if (rise < 0) {
                return false;
            }
            int next = last;
            while (next > rise + 1 && order[next] < order[rise]) {
                next--;
            }
            swap(rise, next);
            for (int from = rise + 1, to = last; from < to; from++, to--) {
                swap(from, to);
            }
            return true;
        }

        private void swap(int one, int other) {
            if (one >= 0 && one < LONGEST && other >= 0 && other < LONGEST) {
                int kept = order[one];
                order[one] = order[other];
                order[other] = kept;
            }
        }
    }
}
