/** Makes expanders for the tests, and tells what they hold. */
final class Expanders {
    private Expanders() {
    }

    /** One with so many snippets, none of them for words alone. */
    static ShorthandRules with(int snippets) {
        ShorthandRules x = new ShorthandRules();
        for (int i = 0; i < snippets; i++) {
            x.addSnippet(false);
        }
        return x;
    }

    static void trigger(ShorthandRules x, int snippet, String trigger) {
        for (char character : trigger.toCharArray()) {
            x.addToTrigger(snippet, character);
        }
    }

    /** Puts characters, and a stop for each '|'. */
    static void body(ShorthandRules x, int snippet, String body) {
        for (char character : body.toCharArray()) {
            if (character == '|') {
                x.putStop(snippet);
            } else {
                x.putCharacter(snippet, character);
            }
        }
    }

    /** Types all keys and returns the last answer. */
    static int type(ShorthandRules x, String keys) {
        int last = -1;
        for (char character : keys.toCharArray()) {
            last = x.key(character);
        }
        return last;
    }

    /** What a snippet gives, with a '|' for each stop. */
    static String given(ShorthandRules x, int snippet) {
        StringBuilder told = new StringBuilder();
        int length = x.lengthOf(snippet);
        for (int i = 0; i < length; i++) {
            told.append(x.characterOf(snippet, i));
        }
        for (int i = x.stopsOf(snippet) - 1; i >= 0; i--) {
            told.insert(x.stopOf(snippet, i), '|');
        }
        return told.toString();
    }

    /** The text with a '^' for the caret, and behind it the stops in their order. */
    static String text(ShorthandRules x) {
        StringBuilder told = new StringBuilder();
        int length = x.length();
        for (int i = 0; i < length; i++) {
            told.append(x.characterAt(i));
        }
        told.insert(x.caret(), '^');
        int stops = x.stops();
        for (int i = 0; i < stops; i++) {
            told.append(' ').append(x.stopAt(i));
        }
        return told.toString();
    }

    /** Makes the body of a snippet so many characters. */
    static void fill(ShorthandRules x, int snippet, int characters) {
        x.clearBody(snippet);
        for (int i = 0; i < characters; i++) {
            x.putCharacter(snippet, 'x');
        }
    }
}
