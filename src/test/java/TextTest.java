import java.util.NoSuchElementException;

/** Promises 23 to 36: the text. */
public final class TextTest {
    private static final Class<IndexOutOfBoundsException> INDEX = IndexOutOfBoundsException.class;
    private static final Class<IllegalArgumentException> ARGUMENT = IllegalArgumentException.class;
    private static final Class<IllegalStateException> STATE = IllegalStateException.class;
    private static final Class<NoSuchElementException> NONE = NoSuchElementException.class;
    private static final String TYPEABLE = "abcdefghijklmnopqrstuvwxyz0123456789 ;.";

    private static final Checks CHECKS = new Checks();

    public static void main(String[] args) {
        key();
        keyAtTheLimit();
        keyForTheLongestTrigger();
        keyForWords();
        keyWithStops();
        keyWithoutRoom();
        erase();
        moveCaret();
        nextStop();
        undo();
        undoNoMore();
        undoAfterFailures();
        lengthAndCharacterAt();
        caret();
        stopsAndStopAt();
        matching();
        matchingAgrees();
        matchingInTheLargestTree();
        saved();
        keptShare();
        CHECKS.end("TextTest");
    }

    private static ShorthandRules with(String trigger, String body) {
        ShorthandRules x = Expanders.with(1);
        Expanders.trigger(x, 0, trigger);
        Expanders.body(x, 0, body);
        return x;
    }

    private static void key() {
        CHECKS.promise(23);
        ShorthandRules x = with("ab", "x|yz|");
        for (char character = 0; character < 300; character++) {
            char typed = character;
            ShorthandRules y = new ShorthandRules();
            Object want = TYPEABLE.indexOf(typed) >= 0 ? (Object) (-1) : "throws.IllegalArgumentException";
            CHECKS.due("character " + (int) typed, want, Checks.answerOf(() -> y.key(typed)));
        }
        CHECKS.due("the beginning of a trigger", -1, x.key('a'));
        CHECKS.due("the text with it", "a^", Expanders.text(x));
        CHECKS.due("the end of the trigger", 0, x.key('b'));
        CHECKS.due("the text with the expansion", "x^yz 3", Expanders.text(x));
        CHECKS.due("a key moves the stops behind it", -1, x.key('q'));
        CHECKS.due("the text", "xq^yz 4", Expanders.text(x));
        x.moveCaret(-2);
        x.key('a');
        CHECKS.due("typed in the middle", 0, x.key('b'));
        CHECKS.due("the text, with the new stops alone", "x^yzxqyz 3", Expanders.text(x));
        ShorthandRules y = with("a", "ba");
        CHECKS.due("what is given ends with the trigger", 0, y.key('a'));
        CHECKS.due("it is not looked at", "ba^", Expanders.text(y));
        CHECKS.due("nor with the next key", -1, y.key('b'));
        ShorthandRules z = with("ab", "q");
        z.addSnippet(false);
        z.addToTrigger(1, ';');
        z.putCharacter(1, 'a');
        z.key(';');
        CHECKS.due("with the next key it is looked at", 0, z.key('b'));
        CHECKS.due("the text", "q^", Expanders.text(z));
        z.clearBody(0);
        CHECKS.due("one without parts", 0, Expanders.type(z, "ab"));
        CHECKS.due("takes the trigger out", "q^", Expanders.text(z));
    }

    private static void keyAtTheLimit() {
        CHECKS.promise(23);
        ShorthandRules x = with("z", "");
        for (int i = 0; i < 80; i++) {
            CHECKS.due("character " + i, -1, x.key((char) ('a' + i % 10)));
        }
        CHECKS.dueThrow("an 81st", STATE, () -> x.key('a'));
        CHECKS.dueThrow("an 81st, though it would be expanded", STATE, () -> x.key('z'));
        CHECKS.dueThrow("an 81st that cannot be typed", ARGUMENT, () -> x.key('A'));
        CHECKS.due("80 are there", 80, x.length());
        CHECKS.due("the last one", 'j', x.characterAt(79));
        x.moveCaret(-80);
        CHECKS.dueThrow("an 81st at the beginning", STATE, () -> x.key('a'));
        x.moveCaret(80);
        x.erase();
        CHECKS.due("the 80th is expanded", 0, x.key('z'));
        CHECKS.due("79 are there", 79, x.length());
    }

    private static void keyForTheLongestTrigger() {
        CHECKS.promise(23);
        ShorthandRules x = Expanders.with(5);
        Expanders.trigger(x, 0, "c");
        Expanders.trigger(x, 1, "abc");
        Expanders.trigger(x, 2, "bc");
        Expanders.trigger(x, 3, "abc");
        CHECKS.due("the longest, then the lowest", 1, Expanders.type(x, "abc"));
        CHECKS.due("a shorter one", 2, Expanders.type(x, ".bc"));
        CHECKS.due("the shortest one", 0, Expanders.type(x, ".c"));
        x.setOn(1, false);
        CHECKS.due("the next of the longest ones", 3, Expanders.type(x, "abc"));
        x.setOn(3, false);
        CHECKS.due("the next shorter one", 2, Expanders.type(x, "abc"));
        x.setOn(2, false);
        CHECKS.due("over a longer one that is off", 0, Expanders.type(x, "abc"));
        CHECKS.due("never one without a trigger", -1, Expanders.type(x, "d"));
        ShorthandRules y = with("abcdef", "");
        CHECKS.due("six characters", 0, Expanders.type(y, "aabcdef"));
        CHECKS.due("the text", "a^", Expanders.text(y));
    }

    private static void keyForWords() {
        CHECKS.promise(23);
        for (char ahead : TYPEABLE.toCharArray()) {
            ShorthandRules x = new ShorthandRules();
            x.addSnippet(true);
            Expanders.trigger(x, 0, "ab");
            x.key(ahead);
            int want = " ;.".indexOf(ahead) >= 0 ? 0 : -1;
            CHECKS.due("behind '" + ahead + "'", want, Expanders.type(x, "ab"));
        }
        ShorthandRules x = new ShorthandRules();
        x.addSnippet(true);
        x.addSnippet(false);
        x.addSnippet(false);
        Expanders.trigger(x, 0, "ab");
        Expanders.trigger(x, 1, "b");
        Expanders.trigger(x, 2, "ab");
        CHECKS.due("at the beginning", 0, Expanders.type(x, "ab"));
        CHECKS.due("within a word another one of the longest", 2, Expanders.type(x, "xab"));
        x.setOn(2, false);
        CHECKS.due("within a word a shorter one", 1, Expanders.type(x, "xab"));
        x.moveCaret(-x.caret());
        x.key('a');
        CHECKS.due("at the beginning, ahead of others", 0, x.key('b'));
    }

    private static void keyWithStops() {
        CHECKS.promise(23);
        ShorthandRules x = with(";", "|a||b|");
        CHECKS.due("expanded", 0, Expanders.type(x, "x;"));
        CHECKS.due("the caret at the first stop", "x^ab 2 2 3", Expanders.text(x));
        Expanders.type(x, "yz");
        CHECKS.due("all move on", "xyz^ab 4 4 5", Expanders.text(x));
        x.moveCaret(1);
        x.key('q');
        CHECKS.due("one at the caret moves on", "xyzaq^b 5 5 6", Expanders.text(x));
        x.moveCaret(1);
        x.moveCaret(-3);
        x.key(' ');
        CHECKS.due("typed ahead of them", "xyz ^aqb 6 6 7", Expanders.text(x));
        x.moveCaret(3);
        x.key('w');
        CHECKS.due("those ahead of the caret stay", "xyz aqbw^ 6 6 8", Expanders.text(x));
        x.clearBody(0);
        Expanders.body(x, 0, "12");
        x.key(';');
        CHECKS.due("without a stop, the caret is behind", "xyz aqbw12^", Expanders.text(x));
    }

    private static void keyWithoutRoom() {
        CHECKS.promise(23);
        ShorthandRules x = with("ab", "1234");
        Expanders.type(x, "7777777777".repeat(7) + "777777");
        CHECKS.due("76 are there", 76, x.length());
        CHECKS.due("76 + 4 = 80 characters", 0, Expanders.type(x, "ab"));
        CHECKS.due("80 are there", 80, x.length());
        x.erase();
        x.erase();
        x.erase();
        x.addSnippet(false);
        x.addToTrigger(1, 'b');
        CHECKS.due("77 + 4 = 81 characters, and no shorter one", -1, Expanders.type(x, "ab"));
        CHECKS.due("79 are there", 79, x.length());
        CHECKS.due("the last one", 'b', x.characterAt(78));
        CHECKS.due("it would be, with room", 0, x.matching());
        CHECKS.due("it would be, with room, by looking", 0, x.matchingByLooking());
        CHECKS.dueThrow("nothing to undo", STATE, () -> x.undo());
        CHECKS.due("the shorter one by itself", 1, x.key('b'));
        CHECKS.due("saved", 2L - 1L, x.saved());
        keyWithoutRoomMovesStops();
    }

    private static void keyWithoutRoomMovesStops() {
        ShorthandRules x = with("a", "|12|");
        x.key('a');
        CHECKS.due("the caret ahead", "^12 2", Expanders.text(x));
        Expanders.type(x, ".".repeat(77));
        CHECKS.due("80 - 1 + 2 = 81 characters", -1, x.key('a'));
        CHECKS.due("the stop is moved on, not dropped", 80, x.stopAt(0));
        CHECKS.due("the character is there", 'a', x.characterAt(77));
    }

    private static void erase() {
        CHECKS.promise(24);
        ShorthandRules x = with(";", "|a||b|");
        CHECKS.dueThrow("of nothing", NONE, () -> x.erase());
        Expanders.type(x, "x;");
        x.moveCaret(1);
        CHECKS.due("the character", 'a', x.erase());
        CHECKS.due("one at the caret moves back", "x^b 1 1 2", Expanders.text(x));
        CHECKS.due("the next character", 'x', x.erase());
        CHECKS.due("all move back", "^b 0 0 1", Expanders.text(x));
        CHECKS.dueThrow("none ahead of the caret", NONE, () -> x.erase());
        CHECKS.due("nothing was changed", "^b 0 0 1", Expanders.text(x));
        x.moveCaret(1);
        x.key('c');
        CHECKS.due("the last one", 'c', x.erase());
        CHECKS.due("those ahead of it stay", "b^ 0 0 1", Expanders.text(x));
        ShorthandRules y = with("ab", "q");
        Expanders.type(y, "acb");
        y.moveCaret(-1);
        y.erase();
        y.moveCaret(1);
        CHECKS.due("nothing is expanded by it", "ab^", Expanders.text(y));
    }

    private static void moveCaret() {
        CHECKS.promise(25);
        ShorthandRules x = new ShorthandRules();
        CHECKS.due("by 0 in nothing", 0, x.moveCaret(0));
        CHECKS.dueThrow("by 1 in nothing", ARGUMENT, () -> x.moveCaret(1));
        CHECKS.dueThrow("by -1 in nothing", ARGUMENT, () -> x.moveCaret(-1));
        Expanders.type(x, "abcd");
        CHECKS.due("back", 1, x.moveCaret(-3));
        CHECKS.due("the text", "a^bcd", Expanders.text(x));
        CHECKS.dueThrow("ahead of the text", ARGUMENT, () -> x.moveCaret(-2));
        CHECKS.dueThrow("behind the text", ARGUMENT, () -> x.moveCaret(4));
        CHECKS.dueThrow("the least int", ARGUMENT, () -> x.moveCaret(Integer.MIN_VALUE));
        CHECKS.dueThrow("the greatest int", ARGUMENT, () -> x.moveCaret(Integer.MAX_VALUE));
        CHECKS.due("nothing was changed", "a^bcd", Expanders.text(x));
        CHECKS.due("by 0", 1, x.moveCaret(0));
        CHECKS.due("to the end", 4, x.moveCaret(3));
        CHECKS.dueThrow("behind the end", ARGUMENT, () -> x.moveCaret(1));
        CHECKS.due("to the beginning", 0, x.moveCaret(-4));
        CHECKS.dueThrow("ahead of the beginning", ARGUMENT, () -> x.moveCaret(-1));
    }

    private static void nextStop() {
        CHECKS.promise(26);
        ShorthandRules x = with(";", "a|b|c||");
        CHECKS.dueThrow("none at first", NONE, () -> x.nextStop());
        Expanders.type(x, "x;");
        CHECKS.due("the text", "xa^bc 3 4 4", Expanders.text(x));
        CHECKS.due("the next one", 3, x.nextStop());
        CHECKS.due("it is dropped", "xab^c 4 4", Expanders.text(x));
        x.moveCaret(1);
        x.key('d');
        x.moveCaret(-5);
        CHECKS.due("the next one, moved on", 5, x.nextStop());
        CHECKS.due("the last one, at the same place", 5, x.nextStop());
        CHECKS.due("the text without stops", "xabcd^", Expanders.text(x));
        CHECKS.dueThrow("none is left", NONE, () -> x.nextStop());
        CHECKS.due("the caret stays", 5, x.caret());
        Expanders.type(x, ";");
        x.moveCaret(1);
        x.moveCaret(1);
        CHECKS.due("the next one can be ahead of the caret", 7, x.nextStop());
    }

    private static void undo() {
        CHECKS.promise(27);
        ShorthandRules x = with("ab", "12|3|");
        CHECKS.dueThrow("nothing at first", STATE, () -> x.undo());
        Expanders.type(x, "xab");
        CHECKS.due("the text", "x12^3 4", Expanders.text(x));
        CHECKS.due("undo", 3, x.undo());
        CHECKS.due("as it was ahead of it", "xab^", Expanders.text(x));
        CHECKS.dueThrow("again", STATE, () -> x.undo());
        CHECKS.due("it still matches", 0, x.matching());
        x.erase();
        x.erase();
        Expanders.type(x, "ab");
        Expanders.type(x, "yab");
        CHECKS.due("two expansions", "x12y12^33 7", Expanders.text(x));
        CHECKS.due("undo of the second one", 7, x.undo());
        CHECKS.due("with the stops moved by its trigger", "x12yab^3 7", Expanders.text(x));
        CHECKS.dueThrow("not of the first one", STATE, () -> x.undo());
        CHECKS.due("the stop is a stop still", 7, x.nextStop());
        Expanders.type(x, "ab");
        Expanders.trigger(x, 0, "c");
        x.clearBody(0);
        x.setOn(0, false);
        x.setToday(500);
        CHECKS.due("whatever the snippet is by now", 9, x.undo());
        CHECKS.due("the text", "x12yab3ab^", Expanders.text(x));
    }

    private static ShorthandRules expanded() {
        ShorthandRules x = with("a", "1|2|");
        x.key('a');
        return x;
    }

    private static void undoNoMore() {
        CHECKS.promise(27);
        ShorthandRules typed = expanded();
        typed.key('z');
        CHECKS.dueThrow("behind a key", STATE, () -> typed.undo());
        ShorthandRules erased = expanded();
        erased.erase();
        CHECKS.dueThrow("behind an erased character", STATE, () -> erased.undo());
        ShorthandRules stayed = expanded();
        stayed.moveCaret(0);
        CHECKS.dueThrow("behind a move by 0", STATE, () -> stayed.undo());
        ShorthandRules moved = expanded();
        moved.moveCaret(1);
        CHECKS.dueThrow("behind a move", STATE, () -> moved.undo());
        ShorthandRules stopped = expanded();
        stopped.nextStop();
        CHECKS.dueThrow("behind a move to a stop", STATE, () -> stopped.undo());
        ShorthandRules again = expanded();
        again.undo();
        CHECKS.due("an expansion behind an undone one", 0, again.key('a'));
        CHECKS.due("the text", "a1^2 3", Expanders.text(again));
        CHECKS.due("its undo", 2, again.undo());
        CHECKS.due("the text then", "aa^", Expanders.text(again));
        CHECKS.dueThrow("the one before is undone already", STATE, () -> again.undo());
    }

    private static void undoAfterFailures() {
        CHECKS.promise(27);
        ShorthandRules x = with(".", "1");
        x.key('.');
        CHECKS.dueThrow("a key that cannot be typed", ARGUMENT, () -> x.key('-'));
        CHECKS.dueThrow("a move that cannot be", ARGUMENT, () -> x.moveCaret(1));
        CHECKS.dueThrow("a stop that is none", NONE, () -> x.nextStop());
        x.matching();
        x.lengthOf(0);
        CHECKS.due("undo is possible still", 1, x.undo());
        ShorthandRules y = with(".", "|");
        y.key('.');
        CHECKS.dueThrow("nothing to erase", NONE, () -> y.erase());
        CHECKS.due("undo is possible still", 1, y.undo());
        ShorthandRules z = with(".", "1");
        Expanders.type(z, "7".repeat(79) + ".");
        CHECKS.dueThrow("a full text", STATE, () -> z.key('a'));
        CHECKS.due("undo is possible still", 80, z.undo());
        CHECKS.due("the last one", '.', z.characterAt(79));
    }

    private static void lengthAndCharacterAt() {
        CHECKS.promise(28);
        ShorthandRules x = new ShorthandRules();
        CHECKS.due("length() of nothing", 0, x.length());
        Expanders.type(x, "a b");
        CHECKS.due("length()", 3, x.length());
        x.moveCaret(-2);
        CHECKS.due("length() with the caret moved", 3, x.length());
        CHECKS.promise(29);
        CHECKS.due("the first", 'a', x.characterAt(0));
        CHECKS.due("the second", ' ', x.characterAt(1));
        CHECKS.due("the last", 'b', x.characterAt(2));
        CHECKS.dueThrow("behind the last", INDEX, () -> x.characterAt(3));
        CHECKS.dueThrow("index -1", INDEX, () -> x.characterAt(-1));
        CHECKS.dueThrow("the greatest int", INDEX, () -> x.characterAt(Integer.MAX_VALUE));
        x.erase();
        CHECKS.due("the first now", ' ', x.characterAt(0));
        CHECKS.dueThrow("behind the last now", INDEX, () -> x.characterAt(2));
    }

    private static void caret() {
        CHECKS.promise(30);
        ShorthandRules x = with(";", "ab|c");
        CHECKS.due("at first", 0, x.caret());
        x.key('a');
        CHECKS.due("behind a key", 1, x.caret());
        x.key(';');
        CHECKS.due("at a stop", 3, x.caret());
        x.moveCaret(-2);
        CHECKS.due("moved", 1, x.caret());
        x.erase();
        CHECKS.due("behind an erased one", 0, x.caret());
    }

    private static void stopsAndStopAt() {
        CHECKS.promise(31);
        ShorthandRules x = with(";", "a|b|c|");
        CHECKS.due("stops() at first", 0, x.stops());
        x.key(';');
        CHECKS.due("stops() without the first one", 2, x.stops());
        CHECKS.promise(32);
        CHECKS.due("stopAt(0)", 2, x.stopAt(0));
        CHECKS.due("stopAt(1)", 3, x.stopAt(1));
        CHECKS.dueThrow("stopAt(2)", INDEX, () -> x.stopAt(2));
        CHECKS.dueThrow("stopAt(-1)", INDEX, () -> x.stopAt(-1));
        x.nextStop();
        CHECKS.due("stopAt(0) behind the next one", 3, x.stopAt(0));
        CHECKS.dueThrow("stopAt(1) behind the next one", INDEX, () -> x.stopAt(1));
        CHECKS.promise(31);
        CHECKS.due("stops() behind the next one", 1, x.stops());
        x.clearBody(0);
        x.key(';');
        CHECKS.due("all are dropped by an expansion", 0, x.stops());
    }

    private static void matching() {
        ShorthandRules x = new ShorthandRules();
        x.addSnippet(true);
        x.addSnippet(false);
        x.addSnippet(false);
        matchingIs("in nothing", -1, x);
        Expanders.type(x, "zab");
        matchingIs("without triggers", -1, x);
        Expanders.trigger(x, 0, "ab");
        matchingIs("for words alone, within one", -1, x);
        Expanders.trigger(x, 1, "b");
        matchingIs("the shorter one", 1, x);
        Expanders.trigger(x, 2, "ab");
        matchingIs("the longer one", 2, x);
        x.addToTrigger(2, 'c');
        matchingIs("longer than the text", 1, x);
        x.moveCaret(-1);
        matchingIs("ahead of the caret alone", -1, x);
        x.moveCaret(1);
        x.setOn(1, false);
        matchingIs("off", -1, x);
        x.moveCaret(-2);
        x.erase();
        x.moveCaret(2);
        matchingIs("for words alone, at the beginning", 0, x);
        x.setOn(1, true);
        matchingIs("the longest", 0, x);
        CHECKS.due("it is not expanded by this", "ab^", Expanders.text(x));
        x.moveCaret(-2);
        matchingIs("at the beginning", -1, x);
    }

    private static void matchingIs(String what, int want, ShorthandRules x) {
        CHECKS.promise(33);
        CHECKS.due("matching() " + what, want, x.matching());
        CHECKS.promise(34);
        CHECKS.due("matchingByLooking() " + what, want, x.matchingByLooking());
    }

    private static void matchingAgrees() {
        ShorthandRules x = Expanders.with(8);
        String text = "abcdefgh";
        Expanders.type(x, text);
        for (int i = 0; i < 8; i++) {
            x.setOn(i, false);
            int length = Math.min(i + 1, 6);
            Expanders.trigger(x, i, text.substring(text.length() - length));
        }
        for (int i = 0; i < 8; i++) {
            x.setOn(i, true);
            matchingIs("with " + (i + 1) + " of ends of the text", Math.min(i, 5), x);
        }
        x.setOn(5, false);
        matchingIs("the next of the same", 6, x);
        x.clearTrigger(6);
        matchingIs("the last of the same", 7, x);
        x.clearTrigger(7);
        matchingIs("a shorter one", 4, x);
    }

    /** All triggers differ in their last characters, so that the tree is as large as it can be. */
    private static void matchingInTheLargestTree() {
        ShorthandRules x = Expanders.with(8);
        for (int i = 0; i < 8; i++) {
            Expanders.trigger(x, i, "12345" + (char) ('a' + i));
        }
        for (int i = 0; i < 8; i++) {
            x.moveCaret(-x.caret());
            CHECKS.promise(23);
            CHECKS.due("the trigger of " + i, i, Expanders.type(x, "12345" + (char) ('a' + i)));
            x.undo();
            matchingIs("in the largest tree", i, x);
        }
    }

    private static void saved() {
        CHECKS.promise(35);
        ShorthandRules x = with("ab", "1234|5");
        CHECKS.due("at first", 0L, x.saved());
        Expanders.type(x, "ab");
        CHECKS.due("5 - 2", 3L, x.saved());
        Expanders.type(x, "zab");
        CHECKS.due("twice", 6L, x.saved());
        x.undo();
        CHECKS.due("one undone", 3L, x.saved());
        x.clearBody(0);
        Expanders.type(x, "ab");
        CHECKS.due("0 - 2", 1L, x.saved());
        Expanders.type(x, "ab");
        Expanders.type(x, "ab");
        CHECKS.due("less than 0", -3L, x.saved());
        Expanders.body(x, 0, "12345");
        Expanders.trigger(x, 0, "cd");
        CHECKS.due("not by what a snippet would give now", -3L, x.saved());
        x.undo();
        CHECKS.due("undone by what was put in", -1L, x.saved());
        x.erase();
        CHECKS.due("not by what is erased", -1L, x.saved());
    }

    private static void keptShare() {
        CHECKS.promise(36);
        ShorthandRules x = with("a", "1");
        CHECKS.dueThrow("at first", NONE, () -> x.keptShare());
        x.key('b');
        CHECKS.dueThrow("behind a key without an expansion", NONE, () -> x.keptShare());
        x.key('a');
        CHECKS.due("one of one", 1.0f, x.keptShare());
        x.undo();
        CHECKS.due("none of one", 0.0f, x.keptShare());
        x.key('a');
        CHECKS.due("one of two", 0.5f, x.keptShare());
        x.key('a');
        CHECKS.due("two of three", 2.0f / 3.0f, x.keptShare());
        x.undo();
        CHECKS.due("one of three", 1.0f / 3.0f, x.keptShare());
    }
}
