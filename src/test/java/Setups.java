/** Expanders at their bounds, and values on both sides of bounds, for the tests of the bounds. */
final class Setups {
    static final String TYPEABLE = "abcdefghijklmnopqrstuvwxyz0123456789 ;.";
    /** The triggers of busy(), and keys that tell it from others. */
    static final String BUSY_KEYS = "ab.b cdefgh;a";

    private Setups() {
    }

    /** Numbers of which there is no snippet, if there are so many. */
    static int[] noSnippets(int snippets) {
        return new int[] {-1, snippets, snippets + 1, 8, 9, 31, 32, 33, 64, -32, 256,
                Integer.MIN_VALUE, Integer.MIN_VALUE + 1, Integer.MAX_VALUE};
    }

    static ShorthandRules with(String trigger, String body) {
        ShorthandRules x = Expanders.with(1);
        Expanders.trigger(x, 0, trigger);
        Expanders.body(x, 0, body);
        return x;
    }

    /**
     * One in which nothing is as at first: 4 snippets, of which 0 was expanded and can be undone, 1 is for
     * words alone and has a full trigger, 2 is off and has a full body, and the second ones count for 3.
     */
    static ShorthandRules busy() {
        ShorthandRules x = new ShorthandRules();
        x.addSnippet(false);
        x.addSnippet(true);
        x.addSnippet(false);
        x.addSnippet(false);
        Expanders.trigger(x, 0, "ab");
        Expanders.trigger(x, 1, "cdefgh");
        Expanders.trigger(x, 2, "b");
        Expanders.body(x, 0, "p|q|r|");
        Expanders.body(x, 1, "w|");
        Expanders.body(x, 2, "0123456789..");
        x.putDate(1, 3, 'm');
        x.putChoice(3, 0, 2);
        x.putSnippet(3, 1);
        x.choose(3, true);
        x.setOn(2, false);
        x.setToday(500);
        Expanders.type(x, ";ab");
        x.undo();
        Expanders.type(x, "xab");
        return x;
    }

    static ShorthandRules full() {
        ShorthandRules x = Expanders.with(8);
        for (int i = 0; i < 8; i++) {
            Expanders.trigger(x, i, "1234" + i + (char) ('a' + i));
        }
        return x;
    }

    /**
     * Six snippets, of which 0 has the size 12, 1 the size 156, 2 a size from 183 on with at most
     * 8 parts, and 3, 4 and 5 none.
     */
    static ShorthandRules sized(int size) {
        ShorthandRules x = Expanders.with(6);
        Expanders.fill(x, 0, 12);
        for (int i = 0; i < 12; i++) {
            x.putSnippet(1, 0);
        }
        x.putSnippet(2, 1);
        x.putSnippet(2, 0);
        x.putSnippet(2, 0);
        grow(x, size - 183);
        return x;
    }

    /** As sized, but the last part of 2 is 3 over 4, both with nothing else in them. */
    static ShorthandRules sizedOverOthers(int size) {
        ShorthandRules x = sized(size - 2);
        x.putSnippet(3, 4);
        x.putSnippet(2, 3);
        return x;
    }

    private static void grow(ShorthandRules x, int by) {
        for (int i = 0; i < by / 5; i++) {
            x.putDate(2, 0, 'w');
        }
        for (int i = 0; i < by % 5; i++) {
            x.putStop(2);
        }
    }

    /** One with 80 characters in its text, the last ones of an expansion that can be undone. */
    static ShorthandRules fullText() {
        ShorthandRules x = with("ab", "12|34");
        Expanders.type(x, ".".repeat(76) + "ab");
        return x;
    }

    /** One that gives the most stops that can be, 184, by the trigger ";" of snippet 2, and no characters. */
    static ShorthandRules mostStops() {
        ShorthandRules x = Expanders.with(3);
        Expanders.body(x, 0, "||||||||||||");
        for (int i = 0; i < 12; i++) {
            x.putSnippet(1, 0);
        }
        x.putSnippet(2, 1);
        for (int i = 0; i < 3; i++) {
            x.putSnippet(2, 0);
        }
        Expanders.body(x, 2, "||||");
        x.addToTrigger(2, ';');
        return x;
    }
}
