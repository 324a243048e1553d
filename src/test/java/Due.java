/** What the tests share: it compares answers, feeds texts, and ends a test. */
final class Due {
    private static int asked = 0;
    private static int wrong = 0;

    private Due() {
    }

    static void is(String call, long got, long want) {
        asked++;
        if (got != want) {
            wrong++;
            System.out.println(call + " answered " + got + ", due is " + want);
        }
    }

    static void is(String call, boolean got, boolean want) {
        is(call, got ? 1 : 0, want ? 1 : 0);
    }

    /** Feeds a text in parts of twenty bytes and cuts off what the last one has too much. */
    static void feed(UnlearnedHand x, String text) {
        int start = x.about(10);
        for (int i = 0; i < text.length(); i += 20) {
            int[] five = five(text, i);
            x.feed(five[0], five[1], five[2], five[3], five[4]);
        }
        x.end(start + text.length());
    }

    static int[] five(String text, int from) {
        int[] five = new int[5];
        for (int j = 0; j < 20; j++) {
            int c = from + j < text.length() ? text.charAt(from + j) : ' ';
            five[j / 4] = five[j / 4] << 8 | c;
        }
        return five;
    }

    /** Reads a text: its number, or NONE. */
    static int text(UnlearnedHand x, String text) {
        feed(x, text);
        return x.text();
    }

    /** A text on a new object must have this fault at this place (fault 0: none). */
    static void fault(String text, int fault, int place) {
        UnlearnedHand x = new UnlearnedHand();
        is("text() of " + text, text(x, text), fault == 0 ? 0 : -1);
        is("fault(0) of " + text, x.fault(0), fault);
        is("fault(1) of " + text, x.fault(1), place);
        is("about(10) behind " + text, x.about(10), 0);
    }

    static void end() {
        System.out.println(asked + " answers looked at, " + wrong + " wrong");
        if (wrong != 0 || asked == 0) {
            System.exit(1);
        }
    }
}
