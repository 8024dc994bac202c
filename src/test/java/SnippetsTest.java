import java.util.NoSuchElementException;

/** Promises 1 to 13: a new object, and the snippets. */
public final class SnippetsTest {
    private static final Class<IndexOutOfBoundsException> INDEX = IndexOutOfBoundsException.class;
    private static final Class<IllegalArgumentException> ARGUMENT = IllegalArgumentException.class;
    private static final Class<IllegalStateException> STATE = IllegalStateException.class;
    private static final Class<UnsupportedOperationException> UNSUPPORTED = UnsupportedOperationException.class;
    private static final String TYPEABLE = "abcdefghijklmnopqrstuvwxyz0123456789 ;.";

    private static final Checks CHECKS = new Checks();

    public static void main(String[] args) {
        newObject();
        addSnippet();
        addToTrigger();
        clearTrigger();
        setOn();
        putCharacter();
        putCharacterAtTheLimits();
        putSnippet();
        putSnippetAtTheLimits();
        putChoice();
        putChoiceAtTheLimits();
        putDate();
        putDateAtTheLimits();
        putStop();
        clearBody();
        choose();
        setToday();
        CHECKS.end("SnippetsTest");
    }

    private static void newObject() {
        CHECKS.promise(1);
        ShorthandRules x = new ShorthandRules();
        CHECKS.dueThrow("lengthOf(0) of a new object", INDEX, () -> x.lengthOf(0));
        CHECKS.due("the text of a new object", "^", Expanders.text(x));
        CHECKS.due("length()", 0, x.length());
        CHECKS.due("clashes()", 0, x.clashes());
        CHECKS.due("saved()", 0L, x.saved());
        CHECKS.dueThrow("keptShare()", NoSuchElementException.class, () -> x.keptShare());
        CHECKS.dueThrow("undo()", STATE, () -> x.undo());
        ShorthandRules other = new ShorthandRules();
        x.addSnippet(false);
        x.key('a');
        CHECKS.due("the first snippet of another object", 0, other.addSnippet(false));
        CHECKS.due("the text of another object", "^", Expanders.text(other));
    }

    private static void addSnippet() {
        CHECKS.promise(2);
        ShorthandRules x = new ShorthandRules();
        for (int i = 0; i < 8; i++) {
            CHECKS.due("addSnippet number " + i, i, x.addSnippet(i % 2 == 1));
            CHECKS.due("no parts of " + i, "", Expanders.given(x, i));
            CHECKS.due("no trigger of " + i, 0, x.clearTrigger(i));
            CHECKS.due("no body of " + i, 0, x.clearBody(i));
            CHECKS.due("on is " + i, true, x.setOn(i, true));
        }
        CHECKS.dueThrow("a 9th snippet", STATE, () -> x.addSnippet(false));
        CHECKS.dueThrow("a 9th snippet again", STATE, () -> x.addSnippet(true));
        CHECKS.dueThrow("the 9th snippet", INDEX, () -> x.lengthOf(8));
        x.addToTrigger(0, 'a');
        x.addToTrigger(1, 'b');
        Expanders.type(x, "xa");
        CHECKS.due("one for all places is expanded behind a letter", "x^", Expanders.text(x));
        CHECKS.due("one for words is not expanded behind a letter", -1, x.key('b'));
        CHECKS.due("one for words is expanded behind a blank", 1, Expanders.type(x, " b"));
    }

    private static void addToTrigger() {
        CHECKS.promise(3);
        ShorthandRules x = Expanders.with(2);
        for (int i = 1; i <= 6; i++) {
            CHECKS.due("addToTrigger, the " + i + "th", i, x.addToTrigger(0, (char) ('a' + i)));
        }
        CHECKS.dueThrow("a 7th character", STATE, () -> x.addToTrigger(0, 'a'));
        CHECKS.dueThrow("a 7th that cannot be typed", ARGUMENT, () -> x.addToTrigger(0, 'A'));
        CHECKS.dueThrow("no snippet, not to be typed", INDEX, () -> x.addToTrigger(2, 'A'));
        CHECKS.dueThrow("snippet -1", INDEX, () -> x.addToTrigger(-1, 'a'));
        CHECKS.due("the trigger is as before", 6, x.clearTrigger(0));
        for (char character = 0; character < 300; character++) {
            char put = character;
            x.clearTrigger(1);
            Object want = TYPEABLE.indexOf(put) >= 0 ? (Object) 1 : "throws.IllegalArgumentException";
            CHECKS.due("character " + (int) put, want, Checks.answerOf(() -> x.addToTrigger(1, put)));
        }
        x.clearTrigger(1);
        Expanders.trigger(x, 1, "a b");
        CHECKS.due("the characters are added at the end", 1, Expanders.type(x, "a b"));
    }

    private static void clearTrigger() {
        CHECKS.promise(4);
        ShorthandRules x = Expanders.with(1);
        CHECKS.due("clearTrigger without one", 0, x.clearTrigger(0));
        Expanders.trigger(x, 0, "abc");
        CHECKS.due("clearTrigger", 3, x.clearTrigger(0));
        CHECKS.due("clearTrigger again", 0, x.clearTrigger(0));
        CHECKS.due("it is expanded no more", -1, Expanders.type(x, "abc"));
        CHECKS.due("in the tree", -1, x.matching());
        CHECKS.due("by looking", -1, x.matchingByLooking());
        CHECKS.due("a new trigger", 1, x.addToTrigger(0, 'b'));
        CHECKS.due("the new one is expanded", 0, x.key('b'));
        CHECKS.dueThrow("no such snippet", INDEX, () -> x.clearTrigger(1));
        CHECKS.dueThrow("snippet -1", INDEX, () -> x.clearTrigger(-1));
    }

    private static void setOn() {
        CHECKS.promise(5);
        ShorthandRules x = Expanders.with(2);
        x.addToTrigger(0, 'a');
        CHECKS.due("on at first", true, x.setOn(0, false));
        CHECKS.due("off", false, x.setOn(0, false));
        CHECKS.due("an off one is not expanded", -1, x.key('a'));
        CHECKS.due("the other one is on", true, x.setOn(1, true));
        CHECKS.due("off until now", false, x.setOn(0, true));
        CHECKS.due("on again", true, x.setOn(0, true));
        CHECKS.due("an on one is expanded", 0, x.key('a'));
        CHECKS.dueThrow("no such snippet", INDEX, () -> x.setOn(2, true));
        CHECKS.dueThrow("snippet -1", INDEX, () -> x.setOn(-1, true));
        x.putCharacter(0, 'q');
        x.putSnippet(1, 0);
        x.setOn(0, false);
        CHECKS.due("an off one still gives", "q", Expanders.given(x, 1));
    }

    private static void putCharacter() {
        CHECKS.promise(6);
        ShorthandRules x = Expanders.with(1);
        for (char character = 0; character < 300; character++) {
            char put = character;
            x.clearBody(0);
            Object want = TYPEABLE.indexOf(put) >= 0 ? (Object) 1 : "throws.IllegalArgumentException";
            CHECKS.due("character " + (int) put, want, Checks.answerOf(() -> x.putCharacter(0, put)));
        }
        x.clearBody(0);
        for (int i = 1; i <= 12; i++) {
            CHECKS.due("putCharacter, the " + i + "th", i, x.putCharacter(0, (char) ('a' + i)));
        }
        CHECKS.dueThrow("a 13th part", STATE, () -> x.putCharacter(0, 'a'));
        CHECKS.dueThrow("a 13th part, not to be typed", ARGUMENT, () -> x.putCharacter(0, '-'));
        CHECKS.dueThrow("no snippet, not to be typed", INDEX, () -> x.putCharacter(1, '-'));
        CHECKS.dueThrow("snippet -1", INDEX, () -> x.putCharacter(-1, 'a'));
        CHECKS.due("what it gives", "bcdefghijklm", Expanders.given(x, 0));
    }

    /** Snippet 0 has so many characters, and snippet 1 is 12 times snippet 0: 12 * (1 + the size of 0). */
    private static ShorthandRules twelveTimes(int sizeOfInner) {
        ShorthandRules x = Expanders.with(4);
        Expanders.fill(x, 0, sizeOfInner);
        for (int i = 0; i < 12; i++) {
            x.putSnippet(1, 0);
        }
        return x;
    }

    private static void putCharacterAtTheLimits() {
        CHECKS.promise(6);
        ShorthandRules x = twelveTimes(11);
        CHECKS.due("12 * (1 + 12) = 156", 12, x.putCharacter(0, 'y'));
        CHECKS.due("156 + 1", 1, x.putSnippet(2, 1));
        for (int i = 2; i <= 12; i++) {
            CHECKS.due("157 + " + (i - 1), i, x.putCharacter(2, 'y'));
        }
        CHECKS.due("168 + 1", 1, x.putSnippet(3, 2));
        for (int i = 0; i < 6; i++) {
            x.putDate(3, 0, 'n');
        }
        CHECKS.due("the size 200", 8, x.putCharacter(3, 'y'));
        CHECKS.dueThrow("the size 201", STATE, () -> x.putCharacter(3, 'y'));
        CHECKS.due("still 8 parts", 8, x.clearBody(3));
        sizeOfAnother(x);
    }

    /** A part can be too much for a snippet that only comes to the changed one. */
    private static void sizeOfAnother(ShorthandRules x) {
        x.clearBody(0);
        x.putSnippet(3, 1);
        x.putSnippet(3, 1);
        for (int i = 0; i < 7; i++) {
            CHECKS.due("the size of 3 is below 200", i + 1, x.putCharacter(0, 'z'));
        }
        // 2 * (1 + 12 * (1 + 7)) = 194, and 2 * (1 + 12 * (1 + 8)) = 218.
        CHECKS.dueThrow("the size of 3 would be 218", STATE, () -> x.putCharacter(0, 'z'));
        CHECKS.due("nothing was added", "zzzzzzz", Expanders.given(x, 0));
        for (int i = 0; i < 6; i++) {
            x.putStop(3);
        }
        CHECKS.dueThrow("the size of 3 is 200 now", STATE, () -> x.putStop(3));
        CHECKS.dueThrow("not to be typed goes first", ARGUMENT, () -> x.putCharacter(3, 'Z'));
    }

    private static void putSnippet() {
        CHECKS.promise(7);
        ShorthandRules x = Expanders.with(3);
        Expanders.body(x, 0, "a|b");
        CHECKS.due("putSnippet", 1, x.putSnippet(1, 0));
        CHECKS.due("putSnippet again", 2, x.putSnippet(1, 0));
        CHECKS.due("over another one", 1, x.putSnippet(2, 1));
        CHECKS.due("what 1 gives", "a|ba|b", Expanders.given(x, 1));
        CHECKS.due("what 2 gives", "a|ba|b", Expanders.given(x, 2));
        CHECKS.dueThrow("the same", UNSUPPORTED, () -> x.putSnippet(1, 1));
        CHECKS.dueThrow("comes to it", UNSUPPORTED, () -> x.putSnippet(0, 1));
        CHECKS.dueThrow("comes to it over another one", UNSUPPORTED, () -> x.putSnippet(0, 2));
        CHECKS.dueThrow("no such snippet", INDEX, () -> x.putSnippet(3, 0));
        CHECKS.dueThrow("no such other one", INDEX, () -> x.putSnippet(0, 3));
        CHECKS.dueThrow("the same that is none", INDEX, () -> x.putSnippet(3, 3));
        CHECKS.dueThrow("snippet -1", INDEX, () -> x.putSnippet(-1, 0));
        CHECKS.dueThrow("other one -1", INDEX, () -> x.putSnippet(0, -1));
        CHECKS.due("nothing was added", 3, x.clearBody(0));
        x.clearBody(1);
        CHECKS.due("1 comes to 0 no more", 1, x.putSnippet(0, 1));
        CHECKS.due("what was put in gives what it gives later", 1, x.putCharacter(1, 'q'));
        CHECKS.due("what 0 gives", "q", Expanders.given(x, 0));
    }

    private static void putSnippetAtTheLimits() {
        CHECKS.promise(7);
        ShorthandRules x = twelveTimes(12);
        CHECKS.dueThrow("a 13th part", STATE, () -> x.putSnippet(1, 0));
        CHECKS.dueThrow("a 13th part that is the same", UNSUPPORTED, () -> x.putSnippet(1, 1));
        x.putSnippet(2, 1);
        x.putSnippet(2, 0);
        x.putSnippet(2, 0);
        // 157 + 13 + 13 = 183, and with 12 characters in 3 there are 13 more: 196.
        Expanders.fill(x, 3, 12);
        CHECKS.due("the size 196", 4, x.putSnippet(2, 3));
        CHECKS.dueThrow("the size 209", STATE, () -> x.putSnippet(2, 3));
        x.clearBody(3);
        Expanders.fill(x, 3, 7);
        CHECKS.due("the size 191 + 8 = 199", 5, x.putSnippet(2, 3));
        ShorthandRules y = twelveTimes(12);
        for (int i = 0; i < 3; i++) {
            y.putSnippet(2, 0);
        }
        y.putSnippet(2, 3);
        y.putSnippet(2, 3);
        y.putSnippet(2, 3);
        CHECKS.due("42 + 157 = 199", 7, y.putSnippet(2, 1));
        CHECKS.due("199 + 1 = 200, by a snippet without parts", 8, y.putSnippet(2, 3));
        CHECKS.dueThrow("201", STATE, () -> y.putSnippet(2, 3));
        CHECKS.dueThrow("201, but the same", UNSUPPORTED, () -> y.putSnippet(2, 2));
        CHECKS.dueThrow("not by the size of another one", STATE, () -> y.putCharacter(3, 'a'));
        CHECKS.due("nothing was added to 3", "", Expanders.given(y, 3));
        putSnippetInTheLowest();
    }

    private static void putSnippetInTheLowest() {
        ShorthandRules x = Expanders.with(4);
        Expanders.fill(x, 3, 12);
        x.putSnippet(2, 3);
        for (int i = 0; i < 12; i++) {
            x.putSnippet(1, 3);
        }
        CHECKS.due("157", 1, x.putSnippet(0, 1));
        for (int i = 2; i <= 4; i++) {
            CHECKS.due("157 + 13 for each", i, x.putSnippet(0, 3));
        }
        CHECKS.dueThrow("196 + 14", STATE, () -> x.putSnippet(0, 2));
        CHECKS.due("it does not come to it", false, x.comesTo(0, 2));
        CHECKS.due("nor is it as deep as before", 3, x.depth(0));
        CHECKS.due("so it can be put the other way", "throws.IllegalStateException",
                Checks.answerOf(() -> x.putSnippet(2, 0)));
        x.clearBody(1);
        CHECKS.due("if the sizes are small", 2, x.putSnippet(2, 0));
        CHECKS.due("by which it comes to it", true, x.comesTo(2, 0));
    }

    private static void putChoice() {
        CHECKS.promise(8);
        ShorthandRules x = Expanders.with(4);
        Expanders.body(x, 0, "a");
        Expanders.body(x, 1, "b|");
        CHECKS.due("putChoice", 1, x.putChoice(2, 0, 1));
        CHECKS.due("putChoice the other way", 2, x.putChoice(2, 1, 0));
        CHECKS.due("putChoice of the same one", 3, x.putChoice(2, 0, 0));
        CHECKS.due("the first ones", "ab|a", Expanders.given(x, 2));
        x.choose(2, true);
        CHECKS.due("the second ones", "b|aa", Expanders.given(x, 2));
        CHECKS.dueThrow("the first is the same", UNSUPPORTED, () -> x.putChoice(2, 2, 0));
        CHECKS.dueThrow("the second is the same", UNSUPPORTED, () -> x.putChoice(2, 0, 2));
        CHECKS.dueThrow("the first comes to it", UNSUPPORTED, () -> x.putChoice(0, 2, 1));
        CHECKS.dueThrow("the second comes to it", UNSUPPORTED, () -> x.putChoice(1, 0, 2));
        x.putChoice(3, 1, 2);
        CHECKS.dueThrow("over a choice's second one", UNSUPPORTED, () -> x.putChoice(0, 1, 3));
        CHECKS.dueThrow("no such snippet", INDEX, () -> x.putChoice(4, 0, 1));
        CHECKS.dueThrow("no such first one", INDEX, () -> x.putChoice(0, 4, 0));
        CHECKS.dueThrow("no such second one", INDEX, () -> x.putChoice(0, 0, 4));
        CHECKS.dueThrow("snippet -1", INDEX, () -> x.putChoice(-1, 0, 1));
        CHECKS.dueThrow("first one -1", INDEX, () -> x.putChoice(2, -1, 2));
        CHECKS.dueThrow("second one -1", INDEX, () -> x.putChoice(2, 2, -1));
        CHECKS.due("nothing was added", 1, x.clearBody(0));
    }

    private static void putChoiceAtTheLimits() {
        CHECKS.promise(8);
        ShorthandRules x = twelveTimes(12);
        CHECKS.dueThrow("a 13th part", STATE, () -> x.putChoice(1, 0, 0));
        CHECKS.dueThrow("a 13th part that is the same", UNSUPPORTED, () -> x.putChoice(1, 0, 1));
        CHECKS.due("1 + the greater one is 157", 1, x.putChoice(2, 3, 1));
        CHECKS.due("157 + 13 = 170", 2, x.putChoice(2, 0, 3));
        CHECKS.due("183", 3, x.putChoice(2, 3, 0));
        CHECKS.due("196", 4, x.putChoice(2, 0, 0));
        CHECKS.dueThrow("209", STATE, () -> x.putChoice(2, 3, 0));
        for (int i = 5; i <= 8; i++) {
            CHECKS.due("up to 200", i, x.putChoice(2, 3, 3));
        }
        CHECKS.dueThrow("201", STATE, () -> x.putChoice(2, 3, 3));
        CHECKS.dueThrow("201, but the same", UNSUPPORTED, () -> x.putChoice(2, 3, 2));
        CHECKS.dueThrow("201, but none", INDEX, () -> x.putChoice(2, 2, 9));
        CHECKS.due("the depth is as before", 3, x.depth(2));
        CHECKS.due("still 8 parts", 8, x.clearBody(2));
    }

    private static void putDate() {
        CHECKS.promise(9);
        ShorthandRules x = Expanders.with(1);
        CHECKS.due("-99", 1, x.putDate(0, -99, 'n'));
        CHECKS.due("99", 2, x.putDate(0, 99, 'n'));
        CHECKS.due("what it gives", "0198", Expanders.given(x, 0));
        CHECKS.dueThrow("-100", ARGUMENT, () -> x.putDate(0, -100, 'n'));
        CHECKS.dueThrow("100", ARGUMENT, () -> x.putDate(0, 100, 'n'));
        CHECKS.dueThrow("the least int", ARGUMENT, () -> x.putDate(0, Integer.MIN_VALUE, 'n'));
        CHECKS.dueThrow("the greatest int", ARGUMENT, () -> x.putDate(0, Integer.MAX_VALUE, 'n'));
        for (char form = 0; form < 300; form++) {
            char put = form;
            x.clearBody(0);
            Object want = "nwm".indexOf(put) >= 0 ? (Object) 1 : "throws.IllegalArgumentException";
            CHECKS.due("form " + (int) put, want, Checks.answerOf(() -> x.putDate(0, 0, put)));
        }
        CHECKS.dueThrow("no snippet, no form", INDEX, () -> x.putDate(1, 100, 'x'));
        CHECKS.dueThrow("snippet -1", INDEX, () -> x.putDate(-1, 0, 'n'));
    }

    private static void putDateAtTheLimits() {
        CHECKS.promise(9);
        ShorthandRules x = Expanders.with(4);
        for (int i = 1; i <= 12; i++) {
            CHECKS.due("putDate, the " + i + "th", i, x.putDate(0, i, 'm'));
        }
        CHECKS.dueThrow("a 13th part", STATE, () -> x.putDate(0, 0, 'n'));
        CHECKS.dueThrow("a 13th part without a form", ARGUMENT, () -> x.putDate(0, 0, 'x'));
        for (int i = 0; i < 3; i++) {
            x.putSnippet(1, 0);
        }
        // 3 * (1 + 60) = 183
        x.putDate(1, 0, 'w');
        x.putDate(1, 0, 'w');
        x.putDate(1, 0, 'w');
        x.putStop(1);
        CHECKS.dueThrow("199 + 5", STATE, () -> x.putDate(1, 0, 'n'));
        CHECKS.dueThrow("199 + 5, but no such days", ARGUMENT, () -> x.putDate(1, 100, 'n'));
        CHECKS.due("199 + 1", 8, x.putStop(1));
        x.clearBody(1);
        for (int i = 0; i < 3; i++) {
            x.putSnippet(1, 0);
        }
        for (int i = 0; i < 7; i++) {
            x.putStop(1);
        }
        x.putDate(1, 0, 'n');
        CHECKS.due("195 + 5 = 200", 12, x.putDate(1, 0, 'n'));
    }

    private static void putStop() {
        CHECKS.promise(10);
        ShorthandRules x = Expanders.with(3);
        for (int i = 1; i <= 12; i++) {
            CHECKS.due("putStop, the " + i + "th", i, x.putStop(0));
        }
        CHECKS.dueThrow("a 13th part", STATE, () -> x.putStop(0));
        CHECKS.due("12 stops", "||||||||||||", Expanders.given(x, 0));
        CHECKS.dueThrow("no such snippet", INDEX, () -> x.putStop(3));
        CHECKS.dueThrow("snippet -1", INDEX, () -> x.putStop(-1));
        for (int i = 0; i < 12; i++) {
            x.putSnippet(1, 0);
        }
        x.putSnippet(2, 1);
        x.putSnippet(2, 0);
        x.putSnippet(2, 0);
        // 157 + 26 = 183, and three dates make 198.
        for (int i = 0; i < 3; i++) {
            x.putDate(2, 0, 'n');
        }
        CHECKS.due("199", 7, x.putStop(2));
        CHECKS.due("200", 8, x.putStop(2));
        CHECKS.dueThrow("201", STATE, () -> x.putStop(2));
        CHECKS.due("170 stops", 170, x.stopsOf(2));
    }

    private static void clearBody() {
        CHECKS.promise(11);
        ShorthandRules x = Expanders.with(2);
        CHECKS.due("clearBody without parts", 0, x.clearBody(0));
        Expanders.body(x, 0, "ab|");
        x.addToTrigger(0, 't');
        x.putSnippet(1, 0);
        x.putStop(1);
        CHECKS.due("clearBody", 3, x.clearBody(0));
        CHECKS.due("clearBody again", 0, x.clearBody(0));
        CHECKS.due("what it gives", "", Expanders.given(x, 0));
        CHECKS.due("what another one gives", "|", Expanders.given(x, 1));
        CHECKS.due("clearBody of the other one", 2, x.clearBody(1));
        CHECKS.due("it comes to none", false, x.comesTo(1, 0));
        CHECKS.due("its depth", 1, x.depth(1));
        CHECKS.due("the trigger stays", 1, x.clearTrigger(0));
        CHECKS.due("a part anew", 1, x.putStop(0));
        CHECKS.dueThrow("no such snippet", INDEX, () -> x.clearBody(2));
        CHECKS.dueThrow("snippet -1", INDEX, () -> x.clearBody(-1));
    }

    private static void choose() {
        CHECKS.promise(12);
        ShorthandRules x = Expanders.with(4);
        Expanders.body(x, 0, "a");
        Expanders.body(x, 1, "b");
        x.putChoice(2, 0, 1);
        x.putChoice(3, 0, 1);
        x.putSnippet(3, 2);
        CHECKS.due("the first ones at first", "aa", Expanders.given(x, 3));
        CHECKS.due("choose", false, x.choose(3, true));
        CHECKS.due("for its own choices alone", "ba", Expanders.given(x, 3));
        CHECKS.due("choose again", true, x.choose(3, true));
        CHECKS.due("choose within", false, x.choose(2, true));
        CHECKS.due("both", "bb", Expanders.given(x, 3));
        CHECKS.due("choose the first", true, x.choose(3, false));
        CHECKS.due("the inner one alone", "ab", Expanders.given(x, 3));
        CHECKS.due("choose the first again", false, x.choose(3, false));
        x.clearBody(2);
        x.putChoice(2, 0, 1);
        CHECKS.due("it counts for later choices too", "b", Expanders.given(x, 2));
        CHECKS.dueThrow("no such snippet", INDEX, () -> x.choose(4, true));
        CHECKS.dueThrow("snippet -1", INDEX, () -> x.choose(-1, false));
    }

    private static void setToday() {
        CHECKS.promise(13);
        ShorthandRules x = Expanders.with(1);
        x.putDate(0, 0, 'n');
        CHECKS.due("the day 99 at first", "99", Expanders.given(x, 0));
        CHECKS.due("setToday(9999)", 99, x.setToday(9999));
        CHECKS.due("the day 9999", "9999", Expanders.given(x, 0));
        CHECKS.dueThrow("the day 10000", ARGUMENT, () -> x.setToday(10000));
        CHECKS.dueThrow("the day 98", ARGUMENT, () -> x.setToday(98));
        CHECKS.dueThrow("the day -100", ARGUMENT, () -> x.setToday(-100));
        CHECKS.due("setToday(99)", 9999, x.setToday(99));
        CHECKS.due("setToday(100)", 99, x.setToday(100));
    }
}
