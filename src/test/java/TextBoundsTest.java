import java.util.NoSuchElementException;

/** The bounds of promises 23 to 36: a test for each sentence of the document that names one. */
public final class TextBoundsTest {
    private static final Class<IndexOutOfBoundsException> INDEX = IndexOutOfBoundsException.class;
    private static final Class<IllegalArgumentException> ARGUMENT = IllegalArgumentException.class;
    private static final Class<IllegalStateException> STATE = IllegalStateException.class;
    private static final Class<NoSuchElementException> NONE = NoSuchElementException.class;
    private static final int[] NO_INDEX = {-1, -2, Integer.MIN_VALUE, Integer.MIN_VALUE + 1, Integer.MAX_VALUE};

    private static final Checks CHECKS = new Checks();
    private static final Refusals OF_NEW = new Refusals(CHECKS, "ab", ShorthandRules::new);
    private static final Refusals OF_BUSY = new Refusals(CHECKS, Setups.BUSY_KEYS, Setups::busy);
    private static final Refusals OF_FULL_TEXT = new Refusals(CHECKS, "ab.b", Setups::fullText);

    public static void main(String[] args) throws IllegalAccessException {
        NamedTests.run(TextBoundsTest.class, CHECKS, 23, 36);
        CHECKS.end("TextBoundsTest");
    }

    private static String dots(int count) {
        return ".".repeat(count);
    }

    /** A row of characters in which no trigger of these tests is. */
    private static ShorthandRules typed(int count) {
        ShorthandRules x = new ShorthandRules();
        Expanders.type(x, dots(count));
        return x;
    }

    // Promise 23: key. "A key puts its character in at the caret, which moves behind it."

    static void promise23AtEachPlace() {
        for (int place = 0; place <= 3; place++) {
            ShorthandRules x = typed(3);
            x.moveCaret(place - 3);
            CHECKS.due("no snippet at all", -1, x.key('a'));
            CHECKS.due("at " + place, dots(place) + "a^" + dots(3 - place), Expanders.text(x));
        }
        ShorthandRules x = new ShorthandRules();
        CHECKS.due("in nothing", -1, x.key('a'));
        CHECKS.due("the text", "a^", Expanders.text(x));
    }

    /** "Throws IllegalArgumentException if it cannot be typed": each of all characters. */
    static void promise23EachCharacterThatCanBeTyped() {
        for (int character = 0; character <= Character.MAX_VALUE; character++) {
            char put = (char) character;
            ShorthandRules x = new ShorthandRules();
            boolean isTypeable = Setups.TYPEABLE.indexOf(put) >= 0;
            Object want = isTypeable ? (Object) (-1) : "throws.IllegalArgumentException";
            CHECKS.due("character " + character, want, Checks.answerOf(() -> x.key(put)));
            CHECKS.due("the length with " + character, isTypeable ? 1 : 0, x.length());
        }
    }

    static void promise23ACharacterThatCannotBeTypedChangesNothing() {
        for (char character : "A`{/:-<!Z\u00e9\u0660\u0000\uffff".toCharArray()) {
            OF_BUSY.due("character " + (int) character, ARGUMENT, x -> x.key(character));
            OF_NEW.due("character " + (int) character, ARGUMENT, x -> x.key(character));
        }
    }

    /** "Throws IllegalStateException if the text has 80 characters." */
    static void promise23The80thIsTypedAndNo81st() {
        ShorthandRules x = new ShorthandRules();
        for (int i = 1; i <= 80; i++) {
            CHECKS.due("the " + i + "th", -1, x.key('.'));
            CHECKS.due("the length", i, x.length());
        }
        CHECKS.dueThrow("the 81st", STATE, () -> x.key('.'));
        OF_FULL_TEXT.due("behind an expansion up to 80", STATE, y -> y.key('z'));
        for (int place = 0; place <= 80; place += 20) {
            int by = place - 80;
            Refusals there = new Refusals(CHECKS, "ab", () -> movedInFull(by));
            there.due("the 81st at " + place, STATE, y -> y.key('z'));
        }
        x.erase();
        CHECKS.due("one was erased", -1, x.key('.'));
        CHECKS.dueThrow("and no more", STATE, () -> x.key('.'));
    }

    private static ShorthandRules movedInFull(int by) {
        ShorthandRules x = typed(80);
        x.moveCaret(by);
        return x;
    }

    /** Not even a key that would be expanded to less fits into 80 characters. */
    static void promise23No81stThoughItWouldBeExpandedToNothing() {
        Refusals full = new Refusals(CHECKS, "z", TextBoundsTest::fullWithEmptyBody);
        full.due("the trigger", STATE, x -> x.key('z'));
        ShorthandRules x = fullWithEmptyBody();
        x.erase();
        CHECKS.due("as the 80th", 0, x.key('z'));
        CHECKS.due("the text", dots(79) + "^", Expanders.text(x));
    }

    private static ShorthandRules fullWithEmptyBody() {
        ShorthandRules x = Setups.with("z", "");
        Expanders.type(x, dots(80));
        return x;
    }

    static void promise23TheFirstExceptionThatApplies() {
        OF_FULL_TEXT.due("not to be typed, 80 characters", ARGUMENT, x -> x.key('A'));
        OF_FULL_TEXT.due("the greatest character, 80 characters", ARGUMENT, x -> x.key('\uffff'));
    }

    /** "... that are on, have a trigger": no text ends with none. */
    static void promise23NeverWithoutATrigger() {
        ShorthandRules x = Setups.with("", "abc");
        CHECKS.due("in nothing", -1, x.key('a'));
        x.addToTrigger(0, 'b');
        x.clearTrigger(0);
        CHECKS.due("a trigger that was cleared", -1, x.key('b'));
        CHECKS.due("the text", "ab^", Expanders.text(x));
    }

    /** "with whose trigger the text ahead of the caret ends": of each length, with as much text and one less. */
    static void promise23TriggersOfOneToSixCharacters() {
        for (int length = 1; length <= 6; length++) {
            String trigger = "abcdef".substring(0, length);
            ShorthandRules x = Setups.with(trigger, "q");
            CHECKS.due("all of " + trigger, 0, Expanders.type(x, trigger));
            CHECKS.due("the text", "q^", Expanders.text(x));
            ShorthandRules y = Setups.with(trigger, "q");
            CHECKS.due("all of it behind another one", 0, Expanders.type(y, "." + trigger));
            CHECKS.due("the text", ".q^", Expanders.text(y));
            ShorthandRules z = Setups.with(trigger, "q");
            CHECKS.due("all but the first", -1, Expanders.type(z, trigger.substring(1)));
            ShorthandRules other = Setups.with(trigger, "q");
            CHECKS.due("another one for the first", -1, Expanders.type(other, "." + trigger.substring(1)));
        }
    }

    /** What is behind the caret is no part of it. */
    static void promise23TheTextBehindTheCaretDoesNotCount() {
        ShorthandRules x = Setups.with("ab", "q");
        x.key('b');
        x.moveCaret(-1);
        CHECKS.due("with the rest behind the caret", -1, x.key('a'));
        CHECKS.due("the text", "a^b", Expanders.text(x));
        CHECKS.due("with the whole ahead of it", 0, x.key('b'));
        CHECKS.due("the text then", "q^b", Expanders.text(x));
    }

    /** "... is expanded only if the character directly ahead of the trigger is not a letter or digit, or if there is none." */
    static void promise23ForWordsAloneBehindEachCharacter() {
        for (char ahead : Setups.TYPEABLE.toCharArray()) {
            boolean isLetterOrDigit = " ;.".indexOf(ahead) < 0;
            for (String trigger : new String[] {"y", "yz", ";y", "yzyzyz"}) {
                int want = isLetterOrDigit ? -1 : 0;
                CHECKS.due(trigger + " behind " + ahead, want, typedBehind("" + ahead, trigger));
                CHECKS.due(trigger + " behind ." + ahead, want, typedBehind("." + ahead, trigger));
                CHECKS.due(trigger + " behind a" + ahead, want, typedBehind("a" + ahead, trigger));
            }
        }
    }

    private static ShorthandRules forWords(String trigger) {
        ShorthandRules x = new ShorthandRules();
        x.addSnippet(true);
        Expanders.trigger(x, 0, trigger);
        return x;
    }

    private static int typedBehind(String ahead, String trigger) {
        ShorthandRules x = forWords(trigger);
        x.setOn(0, false);
        Expanders.type(x, ahead);
        x.setOn(0, true);
        return Expanders.type(x, trigger);
    }

    static void promise23ForWordsAloneBehindNothing() {
        for (String trigger : new String[] {"y", "yz", ";y", "yzyzyz"}) {
            CHECKS.due("'" + trigger + "'", 0, Expanders.type(forWords(trigger), trigger));
            ShorthandRules x = forWords(trigger);
            x.key('a');
            x.moveCaret(-1);
            CHECKS.due("'" + trigger + "' ahead of a letter", 0, Expanders.type(x, trigger));
        }
    }

    /** "the one with the longest trigger is expanded; of several, the one with the lowest number." */
    static void promise23TheLongestThenTheLowest() {
        String[] triggers = {"f", "ef", "def", "cdef", "bcdef", "abcdef", "abcdef", "abcdef"};
        int[] order = {5, 6, 7, 4, 3, 2, 1, 0};
        ShorthandRules x = Expanders.with(8);
        for (int i = 0; i < 8; i++) {
            Expanders.trigger(x, i, triggers[i]);
        }
        for (int number : order) {
            CHECKS.due("of those that are on", number, Expanders.type(x, "abcdef"));
            x.undo();
            x.setOn(number, false);
        }
        CHECKS.due("all off", -1, Expanders.type(x, "abcdef"));
    }

    /** A longer one for words alone that is not ready leaves the place to the next one. */
    static void promise23TheLongestThatIsReady() {
        ShorthandRules x = new ShorthandRules();
        x.addSnippet(true);
        x.addSnippet(true);
        x.addSnippet(false);
        Expanders.trigger(x, 0, "a;b");
        Expanders.trigger(x, 1, "b");
        Expanders.trigger(x, 2, "b");
        CHECKS.due("at the beginning", 0, Expanders.type(x, "a;b"));
        CHECKS.due("behind a letter, the shorter one for words", 1, Expanders.type(x, "ca;b"));
        CHECKS.due("behind a letter, the one for all places", 2, Expanders.type(x, "cb"));
    }

    /**
     * "but if the text would have more than 80 characters then, none at all is expanded": for all lengths
     * of the trigger and of what is given, to 79, 80 and 81 characters.
     */
    static void promise23To80CharactersAndNotTo81() {
        for (int length = 1; length <= 6; length++) {
            for (int given = 0; given <= 12; given++) {
                for (int then = 79; then <= 81; then++) {
                    if (then - given + length <= 80) {
                        expandTo(then, "abcdef".substring(0, length), "x".repeat(given));
                    }
                }
            }
        }
    }

    private static void expandTo(int then, String trigger, String given) {
        String around = dots(then - given.length());
        for (int place = 0; place <= around.length(); place += around.length()) {
            ShorthandRules x = Setups.with(trigger, given);
            Expanders.type(x, around);
            x.moveCaret(place - around.length());
            boolean isRoom = then <= 80;
            CHECKS.due("to " + then, isRoom ? 0 : -1, Expanders.type(x, trigger));
            CHECKS.due("the text", around.substring(0, place) + (isRoom ? given : trigger) + "^"
                    + around.substring(place), Expanders.text(x));
            CHECKS.due("saved", isRoom ? given.length() - (long) trigger.length() : 0L, x.saved());
        }
    }

    /** 80 characters at once, and 81, into a text with nothing but the trigger. */
    static void promise23OneThatGivesTheWholeText() {
        ShorthandRules x = giving(80);
        CHECKS.due("80", 80, x.lengthOf(1));
        CHECKS.due("80 fit", 1, x.key('a'));
        CHECKS.due("the text", "x".repeat(72) + "10000xxx^", Expanders.text(x));
        CHECKS.due("undo", 1, x.undo());
        ShorthandRules y = giving(81);
        CHECKS.due("81", 81, y.lengthOf(1));
        CHECKS.due("81 do not", -1, y.key('a'));
        CHECKS.due("the text", "a^", Expanders.text(y));
        CHECKS.dueThrow("nothing to undo", STATE, () -> y.undo());
    }

    /** Gives 77 characters or up to 5 more by snippet 1, whose trigger is "a". */
    private static ShorthandRules giving(int length) {
        ShorthandRules x = Expanders.with(2);
        x.setToday(9999);
        Expanders.fill(x, 0, 12);
        for (int i = 0; i < 6; i++) {
            x.putSnippet(1, 0);
        }
        x.putDate(1, 1, 'n');
        for (int i = 77; i < length; i++) {
            x.putCharacter(1, 'x');
        }
        x.addToTrigger(1, 'a');
        return x;
    }

    /** "not one with a shorter trigger either", nor one with the same trigger. */
    static void promise23WithoutRoomNoOtherOneEither() {
        ShorthandRules x = Expanders.with(4);
        String[] triggers = {"b", "ab", "ab", "b"};
        String[] bodies = {"", "1234", "", "x"};
        for (int i = 0; i < 4; i++) {
            Expanders.trigger(x, i, triggers[i]);
            Expanders.body(x, i, bodies[i]);
        }
        Expanders.type(x, dots(77));
        CHECKS.due("77 + 4 = 81", -1, Expanders.type(x, "ab"));
        CHECKS.due("the text", dots(77) + "ab^", Expanders.text(x));
        CHECKS.due("it would be, with room", 1, x.matching());
        CHECKS.due("the shorter one where the longer one is not", 0, x.key('b'));
        x.setOn(1, false);
        x.erase();
        CHECKS.due("the other one with the same trigger, if the first is off", 2, x.key('b'));
        CHECKS.due("the text then", dots(77) + "^", Expanders.text(x));
    }

    /** Without room the key is a key as any other: the stops stay and move on, and nothing can be undone. */
    static void promise23WithoutRoomTheStopsStay() {
        ShorthandRules x = Setups.with("a", "|123|");
        x.key('a');
        x.moveCaret(0);
        Expanders.type(x, dots(75));
        CHECKS.due("79 - 1 + 3 = 81", -1, x.key('a'));
        CHECKS.due("the text", dots(75) + "a^123 79", Expanders.text(x));
        CHECKS.dueThrow("nothing to undo", STATE, () -> x.undo());
        CHECKS.due("saved, as before", 2L, x.saved());
        CHECKS.due("of all expansions, as before", 1.0f, x.keptShare());
    }

    /** "without a stop, the caret is behind what was put in", and all that were there before are dropped. */
    static void promise23WithNoStopAndUpTo184() {
        ShorthandRules x = Setups.with(";", "|a|b|");
        x.addSnippet(false);
        x.addToTrigger(1, '0');
        Expanders.body(x, 1, "cd");
        x.addSnippet(false);
        x.addToTrigger(2, '1');
        Expanders.body(x, 2, "c|d");
        x.addSnippet(false);
        x.addToTrigger(3, '2');
        Expanders.type(x, ".;");
        CHECKS.due("three stops", ".^ab 2 3", Expanders.text(x));
        x.key('0');
        CHECKS.due("no stop", ".cd^ab", Expanders.text(x));
        x.key('1');
        CHECKS.due("one stop", ".cdc^dab", Expanders.text(x));
        x.key(';');
        CHECKS.due("three stops again", ".cdc^abdab 5 6", Expanders.text(x));
        x.key('2');
        CHECKS.due("nothing at all", ".cdc^abdab", Expanders.text(x));
        ShorthandRules y = Setups.mostStops();
        y.key('.');
        CHECKS.due("184 stops", 2, y.key(';'));
        CHECKS.due("but for the first one", 183, y.stops());
        CHECKS.due("the text", 1, y.length());
    }

    /** "What was put in is not looked at until the next key." */
    static void promise23WhatWasPutInIsLookedAtWithTheNextKey() {
        ShorthandRules x = Setups.with("a", "a");
        CHECKS.due("its own trigger", 0, x.key('a'));
        CHECKS.due("it matches", 0, x.matching());
        CHECKS.due("another key behind it", -1, x.key('b'));
        CHECKS.due("the text", "ab^", Expanders.text(x));
        ShorthandRules y = Setups.with(";", "abcde|");
        y.addSnippet(false);
        Expanders.trigger(y, 1, "abcdef");
        y.addSnippet(false);
        Expanders.trigger(y, 2, "abcde");
        CHECKS.due("another one's trigger", 0, y.key(';'));
        CHECKS.due("the text", "abcde^", Expanders.text(y));
        CHECKS.due("the rest of a trigger", 1, y.key('f'));
        CHECKS.due("nothing is left", "^", Expanders.text(y));
    }

    // Promise 24: erase.

    /** "Throws NoSuchElementException if there is none" ahead of the caret. */
    static void promise24WithNoneAheadOfTheCaret() {
        OF_NEW.due("in nothing", NONE, x -> x.erase());
        new Refusals(CHECKS, "ab", () -> movedInFull(-80)).due("at the beginning of 80", NONE, x -> x.erase());
        new Refusals(CHECKS, ";", TextBoundsTest::stopsAtTheBeginning).due("where stops are", NONE, x -> x.erase());
    }

    /** Can be undone, and has the caret and two stops at 0. */
    private static ShorthandRules stopsAtTheBeginning() {
        ShorthandRules x = Setups.with(";", "|||a|");
        x.key(';');
        return x;
    }

    static void promise24FromTheFirstToThe80th() {
        ShorthandRules x = typed(80);
        for (int left = 79; left >= 0; left--) {
            CHECKS.due("the character", '.', x.erase());
            CHECKS.due("the text", dots(left) + "^", Expanders.text(x));
        }
        CHECKS.dueThrow("no more", NONE, () -> x.erase());
        for (int place = 1; place <= 3; place++) {
            ShorthandRules y = new ShorthandRules();
            Expanders.type(y, "abc");
            y.moveCaret(place - 3);
            CHECKS.due("ahead of " + place, "abc".charAt(place - 1), y.erase());
            CHECKS.due("the caret", place - 1, y.caret());
            CHECKS.due("the length", 2, y.length());
        }
    }

    /** "each stop at the caret or behind it moves back by 1": one ahead, at and behind the caret. */
    static void promise24StopsAroundTheCaret() {
        for (int caret = 1; caret <= 5; caret++) {
            ShorthandRules x = Setups.with(";", "|a|b|c|d|e|");
            x.key(';');
            x.moveCaret(caret);
            x.erase();
            StringBuilder want = new StringBuilder("abcde").deleteCharAt(caret - 1).insert(caret - 1, '^');
            for (int stop = 1; stop <= 5; stop++) {
                want.append(' ').append(stop >= caret ? stop - 1 : stop);
            }
            CHECKS.due("the caret at " + caret, want.toString(), Expanders.text(x));
        }
    }

    /** "each stop at the caret or behind it moves on by 1", told with the keys. */
    static void promise23StopsAroundTheCaret() {
        for (int caret = 0; caret <= 5; caret++) {
            ShorthandRules x = Setups.with(";", "|a|b|c|d|e|");
            x.key(';');
            x.moveCaret(caret);
            x.key('z');
            StringBuilder want = new StringBuilder("abcde").insert(caret, "z^");
            for (int stop = 1; stop <= 5; stop++) {
                want.append(' ').append(stop >= caret ? stop + 1 : stop);
            }
            CHECKS.due("the caret at " + caret, want.toString(), Expanders.text(x));
        }
    }

    /** Only a key expands, though what is left ends with a trigger. */
    static void promise24ExpandsNothing() {
        ShorthandRules x = Setups.with("ab", "q");
        Expanders.type(x, "a.b");
        x.moveCaret(-1);
        x.erase();
        x.moveCaret(1);
        CHECKS.due("the text", "ab^", Expanders.text(x));
        x.key('c');
        CHECKS.due("the character", 'c', x.erase());
        CHECKS.due("the text still", "ab^", Expanders.text(x));
        CHECKS.due("it matches", 0, x.matching());
    }

    // Promise 25: moveCaret, "if it would be ahead of the text or behind it".

    static void promise25FromEachPlaceToTheBounds() {
        for (int length : new int[] {0, 1, 2, 79, 80}) {
            for (int place = 0; place <= length; place++) {
                ShorthandRules x = typed(length);
                int ahead = place;
                int behind = length - place;
                x.moveCaret(-behind);
                CHECKS.dueThrow("one ahead of the text", ARGUMENT, () -> x.moveCaret(-ahead - 1));
                CHECKS.dueThrow("one behind the text", ARGUMENT, () -> x.moveCaret(behind + 1));
                CHECKS.due("nothing has moved", place, x.caret());
                CHECKS.due("by 0", place, x.moveCaret(0));
                CHECKS.due("to the beginning", 0, x.moveCaret(-ahead));
                CHECKS.due("back again", place, x.moveCaret(place));
                CHECKS.due("to the end", length, x.moveCaret(behind));
                CHECKS.due("the length", length, x.length());
            }
        }
    }

    static void promise25ARefusedMoveChangesNothing() {
        int[] refused = {Integer.MIN_VALUE, Integer.MIN_VALUE + 1, -65536, -256, -81, 81, 256, 65536,
                Integer.MAX_VALUE - 80, Integer.MAX_VALUE - 1, Integer.MAX_VALUE};
        for (int by : refused) {
            OF_BUSY.due("by " + by, ARGUMENT, x -> x.moveCaret(by));
            OF_FULL_TEXT.due("by " + by + " in 80", ARGUMENT, x -> x.moveCaret(by));
        }
        // The caret of a busy one is at 5 of 7.
        OF_BUSY.due("one behind the text", ARGUMENT, x -> x.moveCaret(3));
        OF_BUSY.due("one ahead of the text", ARGUMENT, x -> x.moveCaret(-6));
        CHECKS.due("to its end", 7, Setups.busy().moveCaret(2));
        CHECKS.due("to its beginning", 0, Setups.busy().moveCaret(-5));
    }

    /** "by how many places, less than 0 to go back": the stops stay where they are. */
    static void promise25TheStopsStay() {
        ShorthandRules x = Setups.busy();
        CHECKS.due("the text", ";abxp^qr 6 7", Expanders.text(x));
        x.moveCaret(2);
        CHECKS.due("to the end", ";abxpqr^ 6 7", Expanders.text(x));
        x.moveCaret(-7);
        CHECKS.due("to the beginning", "^;abxpqr 6 7", Expanders.text(x));
    }

    // Promise 26: nextStop.

    /** "Throws NoSuchElementException if there is none." */
    static void promise26WithNone() {
        OF_NEW.due("in nothing", NONE, x -> x.nextStop());
        new Refusals(CHECKS, "a", () -> expanded("q")).due("behind one without stops", NONE, x -> x.nextStop());
        new Refusals(CHECKS, "a", () -> expanded("|q")).due("behind one with one stop", NONE, x -> x.nextStop());
    }

    private static ShorthandRules expanded(String body) {
        ShorthandRules x = Setups.with("a", body);
        x.key('a');
        return x;
    }

    /** "The caret can be moved to the next stop, which is dropped then": up to the last one. */
    static void promise26FromTheFirstToTheLast() {
        ShorthandRules x = expanded("|q|r||");
        CHECKS.due("the text", "^qr 1 2 2", Expanders.text(x));
        CHECKS.due("the first", 1, x.nextStop());
        CHECKS.due("the text", "q^r 2 2", Expanders.text(x));
        CHECKS.due("the second", 2, x.nextStop());
        CHECKS.due("the text", "qr^ 2", Expanders.text(x));
        CHECKS.due("the last, at the same place", 2, x.nextStop());
        CHECKS.due("the text", "qr^", Expanders.text(x));
        CHECKS.dueThrow("no more", NONE, () -> x.nextStop());
        CHECKS.due("the text still", "qr^", Expanders.text(x));
    }

    static void promise26Of183() {
        ShorthandRules x = Setups.mostStops();
        x.key(';');
        for (int left = 182; left >= 0; left--) {
            CHECKS.due("the next one", 0, x.nextStop());
            CHECKS.due("so many are left", left, x.stops());
        }
        CHECKS.dueThrow("no more", NONE, () -> x.nextStop());
    }

    /** A stop at the end of 80 characters, and one at the beginning of none. */
    static void promise26AtTheBoundsOfTheText() {
        ShorthandRules x = Setups.with("a", "|1|");
        x.addSnippet(false);
        Expanders.type(x, dots(79));
        x.key('a');
        CHECKS.due("the caret", 79, x.caret());
        CHECKS.due("the stop behind 80", 80, x.nextStop());
        ShorthandRules y = Setups.with("a", "|1|");
        y.key('a');
        y.moveCaret(1);
        y.erase();
        CHECKS.due("the stop in nothing", 0, y.nextStop());
        CHECKS.due("the length", 0, y.length());
    }

    // Promise 27: undo.

    /** "Throws IllegalStateException if it cannot be undone": there was no expansion. */
    static void promise27WithoutAnExpansion() {
        OF_NEW.due("in nothing", STATE, x -> x.undo());
        new Refusals(CHECKS, "a", () -> typed(80)).due("in 80 characters", STATE, x -> x.undo());
        new Refusals(CHECKS, "a", () -> Setups.with("a", "q")).due("with a snippet", STATE, x -> x.undo());
    }

    private interface Change {
        Object of(ShorthandRules x);
    }

    private static void noMoreBehind(String what, Change change) {
        new Refusals(CHECKS, "a", () -> changed(change)).due(what, STATE, x -> x.undo());
    }

    private static ShorthandRules changed(Change change) {
        ShorthandRules x = expanded("1|2|");
        change.of(x);
        return x;
    }

    /** "as long as no key was typed, ...": each of the calls that ends it. */
    static void promise27EndedByAKey() {
        noMoreBehind("another key", x -> x.key('z'));
        ShorthandRules x = expanded("1|2|");
        x.key('a');
        CHECKS.due("the second expansion", 3, x.undo());
        CHECKS.dueThrow("not the first one", STATE, () -> x.undo());
    }

    static void promise27EndedByAnErasedCharacter() {
        noMoreBehind("an erased character", x -> x.erase());
    }

    static void promise27EndedByAMove() {
        noMoreBehind("by 0", x -> x.moveCaret(0));
        noMoreBehind("by 1", x -> x.moveCaret(1));
        noMoreBehind("by -1", x -> x.moveCaret(-1));
    }

    static void promise27EndedByAMoveToAStop() {
        noMoreBehind("the next stop", x -> x.nextStop());
    }

    static void promise27EndedByUndo() {
        noMoreBehind("undo", x -> x.undo());
    }

    /** A key for which there is no room to expand is a key too. */
    static void promise27EndedByAKeyWithoutRoom() {
        ShorthandRules x = Setups.with("a", "12");
        Expanders.type(x, dots(77) + "a");
        CHECKS.due("79 are there", 79, x.length());
        CHECKS.due("79 + 2 = 81", -1, x.key('a'));
        CHECKS.dueThrow("nothing to undo", STATE, () -> x.undo());
        CHECKS.due("the length", 80, x.length());
    }

    /** Whatever is done with the snippets, and whatever is asked, does not end it. */
    static void promise27NotEndedByOtherCalls() {
        ShorthandRules x = Setups.with(";ab", "1|2|");
        Expanders.type(x, "x;ab");
        x.addSnippet(true);
        x.addToTrigger(0, 'c');
        x.clearTrigger(0);
        x.setOn(0, false);
        x.putCharacter(0, 'q');
        x.putSnippet(0, 1);
        x.putChoice(0, 1, 1);
        x.putDate(0, 0, 'n');
        x.putStop(0);
        x.clearBody(0);
        x.choose(0, true);
        x.setToday(1000);
        ask(x);
        CHECKS.due("undo", 4, x.undo());
        CHECKS.due("the text", "x;ab^", Expanders.text(x));
        CHECKS.due("saved", 0L, x.saved());
    }

    private static void ask(ShorthandRules x) {
        x.lengthOf(0);
        x.stopsOf(0);
        x.comesTo(0, 1);
        x.depth(0);
        x.isShadowedBy(0, 1);
        x.clashes();
        x.length();
        x.characterAt(0);
        x.caret();
        x.stops();
        x.stopAt(0);
        x.matching();
        x.matchingByLooking();
        x.saved();
        x.keptShare();
    }

    /** "then the text, the caret and the stops are again as they were directly ahead of the expansion, with the last character of the trigger typed." */
    static void promise27AsDirectlyAheadOfTheExpansion() {
        ShorthandRules x = Setups.with(";", "p|q|r|");
        x.addSnippet(false);
        Expanders.trigger(x, 1, "ab");
        Expanders.body(x, 1, "123456|7|");
        Expanders.type(x, "..;");
        CHECKS.due("stops that were there before", "..p^qr 4 5", Expanders.text(x));
        Expanders.type(x, "ab");
        CHECKS.due("they are dropped", "..p123456^7qr 10", Expanders.text(x));
        CHECKS.due("undo", 7, x.undo());
        CHECKS.due("they are there again, moved by the trigger", "..pab^qr 6 7", Expanders.text(x));
        CHECKS.due("the next one", 6, x.nextStop());
    }

    /** The last character of the trigger was the 80th. */
    static void promise27ToAFullText() {
        Refusals again = new Refusals(CHECKS, "ab", TextBoundsTest::undoneToFull);
        again.due("again", STATE, x -> x.undo());
        again.due("a key", STATE, x -> x.key('.'));
        CHECKS.due("the text", dots(78) + "ab^", Expanders.text(undoneToFull()));
    }

    private static ShorthandRules undoneToFull() {
        ShorthandRules x = Setups.with("ab", "|");
        Expanders.type(x, dots(78) + "ab");
        CHECKS.due("78 were left", 78, x.length());
        CHECKS.due("80 are there again", 80, x.undo());
        return x;
    }

    /** "It is not expanded again by this." */
    static void promise27ExpandsNothing() {
        ShorthandRules x = expanded("1|2|");
        CHECKS.due("undo", 1, x.undo());
        CHECKS.due("the text", "a^", Expanders.text(x));
        CHECKS.due("it matches", 0, x.matching());
        CHECKS.due("by looking too", 0, x.matchingByLooking());
        x.key('a');
        CHECKS.due("the next one is expanded for itself", "a1^2 3", Expanders.text(x));
    }

    // Promises 28 to 32: what the text is.

    static void promise28FromNoneTo80() {
        CHECKS.due("at first", 0, new ShorthandRules().length());
        for (int length = 1; length <= 80; length++) {
            CHECKS.due("typed", length, typed(length).length());
        }
        CHECKS.due("a full text by an expansion", 80, Setups.fullText().length());
        CHECKS.due("nothing by an expansion", 0, expanded("|").length());
    }

    /** "Throws IndexOutOfBoundsException if there is no such character." */
    static void promise29FromTheFirstToTheLast() {
        OF_NEW.due("of nothing", INDEX, x -> x.characterAt(0));
        CHECKS.due("the only one", '.', typed(1).characterAt(0));
        CHECKS.dueThrow("behind the only one", INDEX, () -> typed(1).characterAt(1));
        CHECKS.due("the first of 80", '.', Setups.fullText().characterAt(0));
        CHECKS.due("the last of 80", '4', Setups.fullText().characterAt(79));
        OF_FULL_TEXT.due("behind the last of 80", INDEX, x -> x.characterAt(80));
        OF_BUSY.due("behind the last", INDEX, x -> x.characterAt(7));
        CHECKS.due("the last", 'r', Setups.busy().characterAt(6));
        for (int index : NO_INDEX) {
            OF_BUSY.due("index " + index, INDEX, x -> x.characterAt(index));
            OF_NEW.due("index " + index, INDEX, x -> x.characterAt(index));
            OF_FULL_TEXT.due("index " + index, INDEX, x -> x.characterAt(index));
        }
    }

    /** What was erased or taken out is no such character. */
    static void promise29OfWhatWasTakenOut() {
        ShorthandRules x = typed(3);
        x.erase();
        CHECKS.dueThrow("erased", INDEX, () -> x.characterAt(2));
        CHECKS.dueThrow("a trigger taken out", INDEX, () -> expanded("").characterAt(0));
        ShorthandRules y = expanded("1234");
        y.undo();
        CHECKS.dueThrow("undone", INDEX, () -> y.characterAt(1));
    }

    /** "a caret, which is at a place from 0 to its length." */
    static void promise30From0To80() {
        CHECKS.due("at first", 0, new ShorthandRules().caret());
        CHECKS.due("behind 80", 80, typed(80).caret());
        CHECKS.due("ahead of 80", 0, movedInFull(-80).caret());
        CHECKS.due("behind one", 1, typed(1).caret());
        CHECKS.due("behind nothing that was put in", 0, expanded("").caret());
        CHECKS.due("at a stop ahead", 0, expanded("|12").caret());
        CHECKS.due("at a stop behind", 2, expanded("12|").caret());
        CHECKS.due("behind what was put in", 2, expanded("12").caret());
    }

    static void promise31FromNoneTo183() {
        CHECKS.due("at first", 0, new ShorthandRules().stops());
        CHECKS.due("without stops", 0, expanded("q").stops());
        CHECKS.due("one, which the caret takes", 0, expanded("|q").stops());
        CHECKS.due("two", 1, expanded("|q|").stops());
        CHECKS.due("12", 11, expanded("||||||||||||").stops());
        ShorthandRules x = Setups.mostStops();
        x.key(';');
        CHECKS.due("184", 183, x.stops());
        x.undo();
        CHECKS.due("undone", 0, x.stops());
    }

    /** "Throws IndexOutOfBoundsException if there is no such stop." */
    static void promise32FromTheFirstToTheLast() {
        CHECKS.due("the first", 6, Setups.busy().stopAt(0));
        CHECKS.due("the last", 7, Setups.busy().stopAt(1));
        OF_BUSY.due("behind the last", INDEX, x -> x.stopAt(2));
        OF_NEW.due("of none", INDEX, x -> x.stopAt(0));
        OF_FULL_TEXT.due("the caret took the only one", INDEX, x -> x.stopAt(0));
        for (int index : NO_INDEX) {
            OF_BUSY.due("index " + index, INDEX, x -> x.stopAt(index));
            OF_NEW.due("index " + index, INDEX, x -> x.stopAt(index));
        }
        ShorthandRules x = Setups.mostStops();
        x.key(';');
        CHECKS.due("the last of 183", 0, x.stopAt(182));
        CHECKS.dueThrow("behind 183", INDEX, () -> x.stopAt(183));
        x.nextStop();
        CHECKS.due("the last of 182", 0, x.stopAt(181));
        CHECKS.dueThrow("behind 182", INDEX, () -> x.stopAt(182));
    }

    // Promises 33 and 34: matching, in the tree and by looking.

    private static void matchesInTheTree(String what, int want, ShorthandRules x) {
        CHECKS.due(what, want, x.matching());
    }

    private static void matchesByLooking(String what, int want, ShorthandRules x) {
        CHECKS.due(what, want, x.matchingByLooking());
    }

    private interface Match {
        void due(String what, int want, ShorthandRules x);
    }

    private static void ofNothing(Match match) {
        match.due("no snippet, no text", -1, new ShorthandRules());
        match.due("no snippet", -1, typed(80));
        match.due("no text", -1, Setups.with("a", ""));
        match.due("no trigger", -1, behind(".", ""));
        match.due("no trigger, no text", -1, Setups.with("", ""));
    }

    /** The text is typed while the snippet is off, so that nothing is expanded. */
    private static ShorthandRules behind(String text, String trigger) {
        ShorthandRules x = Setups.with(trigger, "");
        x.setOn(0, false);
        Expanders.type(x, text);
        x.setOn(0, true);
        return x;
    }

    private static void ofEachLength(Match match) {
        for (int length = 1; length <= 6; length++) {
            String trigger = "abcdef".substring(0, length);
            match.due("all of the text, " + trigger, 0, behind(trigger, trigger));
            match.due("its end", 0, behind("z" + trigger, trigger));
            match.due("not its middle", -1, behind(trigger + "z", trigger));
            match.due("one more than the text", -1, behind(trigger.substring(1), trigger));
            match.due("all but the first", -1, behind("z" + trigger.substring(1), trigger));
            match.due("all but the last", -1, behind(trigger.substring(0, length - 1) + "z", trigger));
        }
    }

    private static void ofEachPlace(Match match) {
        for (int place = 0; place <= 4; place++) {
            ShorthandRules x = behind("abab", "ab");
            x.moveCaret(place - 4);
            match.due("at " + place, place == 2 || place == 4 ? 0 : -1, x);
        }
    }

    /** "and there was enough room": the text has 80 characters, and 12 would be put in. */
    private static void withoutRoom(Match match) {
        ShorthandRules x = Setups.with("ab", "123456789012");
        Expanders.type(x, dots(78) + "ab");
        CHECKS.due("it was not expanded", 80, x.length());
        match.due("80 - 2 + 12 = 90", 0, x);
        ShorthandRules y = giving(81);
        y.key('a');
        match.due("81 in nothing", 1, y);
    }

    private static void forWordsAlone(Match match) {
        for (char ahead : Setups.TYPEABLE.toCharArray()) {
            ShorthandRules x = forWords("yz");
            x.setOn(0, false);
            Expanders.type(x, ahead + "yz");
            x.setOn(0, true);
            match.due("behind '" + ahead + "'", " ;.".indexOf(ahead) >= 0 ? 0 : -1, x);
            x.moveCaret(-2);
            x.erase();
            x.moveCaret(2);
            match.due("behind nothing", 0, x);
        }
    }

    /** "the one with the longest trigger ...; of several, the one with the lowest number." */
    private static void ofEight(Match match) {
        String[] triggers = {"f", "f", "ef", "cdef", "cdef", "abcdef", "abcdef", "bbcdef"};
        int[] order = {5, 6, 3, 4, 2, 0, 1};
        ShorthandRules x = Expanders.with(8);
        Expanders.type(x, "abcdef");
        for (int i = 0; i < 8; i++) {
            Expanders.trigger(x, i, triggers[i]);
        }
        for (int number : order) {
            match.due("of those that are on", number, x);
            x.setOn(number, false);
        }
        match.due("all that match are off", -1, x);
        for (int number : order) {
            x.setOn(number, true);
        }
        for (int number : order) {
            match.due("of those with a trigger", number, x);
            x.clearTrigger(number);
        }
        match.due("all that match are cleared", -1, x);
    }

    /** 8 triggers of 6 characters, which differ in their last ones: no tree of triggers is larger. */
    private static void ofTheLargestTree(Match match) {
        for (int i = 0; i < 8; i++) {
            String trigger = "1234" + i + (char) ('a' + i);
            for (int changed = 0; changed < 6; changed++) {
                StringBuilder text = new StringBuilder(trigger);
                text.setCharAt(changed, '.');
                match.due("all but one character of " + i, -1, typedWhileOff(Setups.full(), text.toString()));
            }
            match.due("the trigger of " + i, i, typedWhileOff(Setups.full(), trigger));
        }
    }

    private static ShorthandRules typedWhileOff(ShorthandRules x, String text) {
        for (int i = 0; i < 8; i++) {
            x.setOn(i, false);
        }
        Expanders.type(x, text);
        for (int i = 0; i < 8; i++) {
            x.setOn(i, true);
        }
        return x;
    }

    static void promise33OfNothing() {
        ofNothing(TextBoundsTest::matchesInTheTree);
    }

    static void promise33OfEachLength() {
        ofEachLength(TextBoundsTest::matchesInTheTree);
    }

    static void promise33OfEachPlace() {
        ofEachPlace(TextBoundsTest::matchesInTheTree);
    }

    static void promise33WithoutRoom() {
        withoutRoom(TextBoundsTest::matchesInTheTree);
    }

    static void promise33ForWordsAlone() {
        forWordsAlone(TextBoundsTest::matchesInTheTree);
    }

    static void promise33OfEight() {
        ofEight(TextBoundsTest::matchesInTheTree);
    }

    static void promise33OfTheLargestTree() {
        ofTheLargestTree(TextBoundsTest::matchesInTheTree);
    }

    static void promise34OfNothing() {
        ofNothing(TextBoundsTest::matchesByLooking);
    }

    static void promise34OfEachLength() {
        ofEachLength(TextBoundsTest::matchesByLooking);
    }

    static void promise34OfEachPlace() {
        ofEachPlace(TextBoundsTest::matchesByLooking);
    }

    static void promise34WithoutRoom() {
        withoutRoom(TextBoundsTest::matchesByLooking);
    }

    static void promise34ForWordsAlone() {
        forWordsAlone(TextBoundsTest::matchesByLooking);
    }

    static void promise34OfEight() {
        ofEight(TextBoundsTest::matchesByLooking);
    }

    static void promise34OfTheLargestTree() {
        ofTheLargestTree(TextBoundsTest::matchesByLooking);
    }

    // Promise 35: saved, "the sum, which can be less than 0".

    static void promise35From0ToLessAndMore() {
        CHECKS.due("at first", 0L, new ShorthandRules().saved());
        CHECKS.due("a key that is not expanded", 0L, typed(1).saved());
        CHECKS.due("as long as the trigger", 0L, expanded("1").saved());
        CHECKS.due("one longer", 1L, expanded("12").saved());
        CHECKS.due("one shorter, below 0", -1L, expanded("").saved());
        ShorthandRules x = giving(80);
        x.key('a');
        CHECKS.due("the most at once", 79L, x.saved());
        x.undo();
        CHECKS.due("undone", 0L, x.saved());
    }

    static void promise35TheLeastOfMany() {
        ShorthandRules x = Setups.with("abcdef", "");
        for (int i = 1; i <= 60; i++) {
            Expanders.type(x, "abcdef");
            CHECKS.due("6 less for each", -6L * i, x.saved());
        }
        x.undo();
        CHECKS.due("but for the one undone", -6L * 59, x.saved());
        CHECKS.dueThrow("no other one", STATE, () -> x.undo());
        CHECKS.due("the same still", -6L * 59, x.saved());
    }

    /** "the length of what was put in": as it was then, and not as a snippet gives now. */
    static void promise35OfWhatWasPutIn() {
        ShorthandRules x = Setups.with("abc", "");
        x.putDate(0, 0, 'n');
        Expanders.type(x, "abc");
        CHECKS.due("2 - 3", -1L, x.saved());
        x.setToday(9999);
        CHECKS.due("the same still", -1L, x.saved());
        Expanders.type(x, "abc");
        CHECKS.due("4 - 3 more", 0L, x.saved());
        x.setToday(100);
        x.undo();
        CHECKS.due("4 - 3 less", -1L, x.saved());
    }

    // Promise 36: keptShare.

    /** "Throws NoSuchElementException if there was none." */
    static void promise36WithoutAnExpansion() {
        OF_NEW.due("at first", NONE, x -> x.keptShare());
        new Refusals(CHECKS, "a", () -> typed(80)).due("behind keys", NONE, x -> x.keptShare());
        ShorthandRules x = giving(81);
        x.key('a');
        CHECKS.dueThrow("without room for it", NONE, () -> x.keptShare());
    }

    static void promise36FromNoneToAll() {
        ShorthandRules x = Setups.with("a", "1");
        for (int all = 1; all <= 40; all++) {
            x.key('a');
            CHECKS.due("all of " + all, 1.0f, x.keptShare());
        }
        x.undo();
        CHECKS.due("all but one of 40", 39.0f / 40.0f, x.keptShare());
        ShorthandRules y = Setups.with("a", "1");
        for (int all = 1; all <= 40; all++) {
            y.key('a');
            CHECKS.due("the first of " + all, 1.0f / all, y.keptShare());
            y.undo();
            CHECKS.due("none of " + all, 0.0f, y.keptShare());
        }
        y.key('a');
        CHECKS.due("one of 41", 1.0f / 41.0f, y.keptShare());
        y.key('a');
        CHECKS.due("two of 42", 2.0f / 42.0f, y.keptShare());
    }
}
