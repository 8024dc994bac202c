import java.util.NoSuchElementException;

/** The bounds of promises 1 to 13: a test for each sentence of the document that names one. */
public final class SnippetBoundsTest {
    private static final Class<IndexOutOfBoundsException> INDEX = IndexOutOfBoundsException.class;
    private static final Class<IllegalArgumentException> ARGUMENT = IllegalArgumentException.class;
    private static final Class<IllegalStateException> STATE = IllegalStateException.class;
    private static final Class<UnsupportedOperationException> UNSUPPORTED = UnsupportedOperationException.class;
    private static final Class<NoSuchElementException> NONE = NoSuchElementException.class;

    private static final Checks CHECKS = new Checks();
    private static final Refusals OF_NEW = new Refusals(CHECKS, "ab", ShorthandRules::new);
    private static final Refusals OF_BUSY = new Refusals(CHECKS, Setups.BUSY_KEYS, Setups::busy);
    private static final Refusals OF_FULL = new Refusals(CHECKS, "12340a12347h", Setups::full);

    public static void main(String[] args) throws IllegalAccessException {
        NamedTests.run(SnippetBoundsTest.class, CHECKS, 1, 13);
        CHECKS.end("SnippetBoundsTest");
    }

    // Promise 1: "Creates an expander without snippets, with an empty text."

    static void promise1WithoutSnippetsNoneCanBeNamed() {
        OF_NEW.due("addToTrigger", INDEX, x -> x.addToTrigger(0, 'a'));
        OF_NEW.due("clearTrigger", INDEX, x -> x.clearTrigger(0));
        OF_NEW.due("setOn", INDEX, x -> x.setOn(0, true));
        OF_NEW.due("putCharacter", INDEX, x -> x.putCharacter(0, 'a'));
        OF_NEW.due("putSnippet", INDEX, x -> x.putSnippet(0, 0));
        OF_NEW.due("putChoice", INDEX, x -> x.putChoice(0, 0, 0));
        OF_NEW.due("putDate", INDEX, x -> x.putDate(0, 0, 'n'));
        OF_NEW.due("putStop", INDEX, x -> x.putStop(0));
        OF_NEW.due("clearBody", INDEX, x -> x.clearBody(0));
        OF_NEW.due("choose", INDEX, x -> x.choose(0, true));
        OF_NEW.due("lengthOf", INDEX, x -> x.lengthOf(0));
        OF_NEW.due("characterOf", INDEX, x -> x.characterOf(0, 0));
        OF_NEW.due("stopsOf", INDEX, x -> x.stopsOf(0));
        OF_NEW.due("stopOf", INDEX, x -> x.stopOf(0, 0));
        OF_NEW.due("comesTo", INDEX, x -> x.comesTo(0, 0));
        OF_NEW.due("depth", INDEX, x -> x.depth(0));
        OF_NEW.due("isShadowedBy", INDEX, x -> x.isShadowedBy(0, 0));
        OF_NEW.due("shadower", INDEX, x -> x.shadower(0));
        CHECKS.due("clashes", 0, new ShorthandRules().clashes());
        CHECKS.due("the first number", 0, new ShorthandRules().addSnippet(true));
    }

    static void promise1TheTextIsEmpty() {
        ShorthandRules x = new ShorthandRules();
        CHECKS.due("length", 0, x.length());
        CHECKS.due("caret", 0, x.caret());
        CHECKS.due("stops", 0, x.stops());
        CHECKS.due("matching", -1, x.matching());
        CHECKS.due("matchingByLooking", -1, x.matchingByLooking());
        CHECKS.due("saved", 0L, x.saved());
        OF_NEW.due("keptShare", NONE, y -> y.keptShare());
        OF_NEW.due("characterAt", INDEX, y -> y.characterAt(0));
        OF_NEW.due("stopAt", INDEX, y -> y.stopAt(0));
        OF_NEW.due("erase", NONE, y -> y.erase());
        OF_NEW.due("nextStop", NONE, y -> y.nextStop());
        OF_NEW.due("undo", STATE, y -> y.undo());
        OF_NEW.due("moveCaret(1)", ARGUMENT, y -> y.moveCaret(1));
        OF_NEW.due("moveCaret(-1)", ARGUMENT, y -> y.moveCaret(-1));
        CHECKS.due("moveCaret(0)", 0, x.moveCaret(0));
    }

    /** "An object is used for at most 512 calls after it has been made." */
    static void promise1The512thCallIsAnsweredAsDue() {
        ShorthandRules x = Setups.with("ab", "1|2");
        int calls = 6;
        while (calls < 511) {
            CHECKS.due("a key", -1, x.key('a'));
            CHECKS.due("the end of the trigger", 0, x.key('b'));
            CHECKS.due("undo", 2, x.undo());
            CHECKS.due("erase", 'b', x.erase());
            CHECKS.due("erase again", 'a', x.erase());
            calls += 5;
        }
        CHECKS.due("511 calls", 511, calls);
        CHECKS.due("the 512th call", 0.0f, x.keptShare());
    }

    // Promise 2: "Throws IllegalStateException if there are 8 snippets."

    static void promise2TheEighthIsAddedAndNoNinth() {
        ShorthandRules x = new ShorthandRules();
        for (int i = 0; i < 8; i++) {
            CHECKS.due("one more than " + i, i, x.addSnippet(i % 2 == 0));
        }
        OF_FULL.due("a 9th", STATE, y -> y.addSnippet(false));
        OF_FULL.due("a 9th for words", STATE, y -> y.addSnippet(true));
    }

    /** "Adds a snippet without a trigger and parts." */
    static void promise2AnAddedOneHasNothing() {
        ShorthandRules x = new ShorthandRules();
        for (int i = 0; i < 8; i++) {
            x.addSnippet(i % 2 == 0);
            CHECKS.due("no characters", 0, x.lengthOf(i));
            CHECKS.due("no stops", 0, x.stopsOf(i));
            CHECKS.due("no parts", 0, x.clearBody(i));
            CHECKS.due("no trigger", 0, x.clearTrigger(i));
            CHECKS.due("the depth", 1, x.depth(i));
            CHECKS.due("the first ones count", false, x.choose(i, false));
            CHECKS.due("on", true, x.setOn(i, true));
        }
        CHECKS.due("none is expanded without a trigger", -1, x.key('a'));
        CHECKS.due("nor clashes", 0, x.clashes());
    }

    // Promise 3: addToTrigger.

    /** "Throws IllegalStateException if the trigger has 6 characters." */
    static void promise3TheSixthCharacterIsAddedAndNoSeventh() {
        ShorthandRules x = Expanders.with(8);
        for (int snippet = 0; snippet < 8; snippet++) {
            for (int length = 1; length <= 6; length++) {
                CHECKS.due("one more than " + (length - 1), length, x.addToTrigger(snippet, 'a'));
            }
        }
        for (int i = 0; i < 8; i++) {
            int snippet = i;
            OF_FULL.due("a 7th of " + i, STATE, y -> y.addToTrigger(snippet, 'a'));
        }
        OF_BUSY.due("a 7th", STATE, y -> y.addToTrigger(1, 'a'));
        CHECKS.due("5 + 1 characters", 6, Setups.with("abcde", "").addToTrigger(0, 'f'));
    }

    /** "Throws IllegalArgumentException if it cannot be typed": each of all characters. */
    static void promise3EachCharacterThatCanBeTypedIsAdded() {
        for (int character = 0; character <= Character.MAX_VALUE; character++) {
            char put = (char) character;
            ShorthandRules x = Expanders.with(1);
            CHECKS.due("character " + character, typed(put, 1), Checks.answerOf(() -> x.addToTrigger(0, put)));
        }
    }

    private static Object typed(char character, Object answer) {
        return Setups.TYPEABLE.indexOf(character) >= 0 ? answer : "throws.IllegalArgumentException";
    }

    static void promise3ACharacterThatCannotBeTypedChangesNothing() {
        for (char character : "A`{/:-<!Z\u00e9\u0660\u0000\uffff".toCharArray()) {
            OF_BUSY.due("character " + (int) character, ARGUMENT, x -> x.addToTrigger(0, character));
        }
    }

    static void promise3NoSuchSnippet() {
        for (int none : Setups.noSnippets(4)) {
            OF_BUSY.due("snippet " + none, INDEX, x -> x.addToTrigger(none, 'a'));
        }
        CHECKS.due("the last one", 1, Setups.busy().addToTrigger(3, 'a'));
    }

    static void promise3TheFirstExceptionThatApplies() {
        OF_BUSY.due("no snippet, not to be typed", INDEX, x -> x.addToTrigger(4, 'A'));
        OF_BUSY.due("not to be typed, 6 characters", ARGUMENT, x -> x.addToTrigger(1, 'A'));
        OF_FULL.due("no snippet, where all are full", INDEX, x -> x.addToTrigger(8, 'A'));
    }

    // Promise 4: clearTrigger.

    static void promise4OfEachLengthFromNoneToSix() {
        for (int length = 0; length <= 6; length++) {
            ShorthandRules x = Setups.with("abcdef".substring(0, length), "");
            CHECKS.due("how many there were", length, x.clearTrigger(0));
            CHECKS.due("then none", 0, x.clearTrigger(0));
            CHECKS.due("nothing is expanded", -1, Expanders.type(x, "abcdef"));
            for (int i = 1; i <= 6; i++) {
                CHECKS.due("6 can be added again", i, x.addToTrigger(0, 'g'));
            }
            CHECKS.dueThrow("and no 7th", STATE, () -> x.addToTrigger(0, 'g'));
        }
    }

    static void promise4TheOtherTriggersStay() {
        ShorthandRules x = Setups.full();
        CHECKS.due("how many there were", 6, x.clearTrigger(3));
        for (int i = 0; i < 8; i++) {
            CHECKS.due("trigger " + i, i == 3 ? -1 : i, Expanders.type(x, "1234" + i + (char) ('a' + i)));
        }
    }

    static void promise4NoSuchSnippet() {
        for (int none : Setups.noSnippets(4)) {
            OF_BUSY.due("snippet " + none, INDEX, x -> x.clearTrigger(none));
        }
        CHECKS.due("the last one", 0, Setups.busy().clearTrigger(3));
        CHECKS.due("the last one of 8", 6, Setups.full().clearTrigger(7));
    }

    // Promise 5: setOn, "and is on, as at first, or off".

    static void promise5OnAtFirstThenAsToldLast() {
        ShorthandRules x = Expanders.with(8);
        for (int i = 0; i < 8; i++) {
            CHECKS.due("on at first", true, x.setOn(i, true));
            CHECKS.due("on", true, x.setOn(i, false));
            CHECKS.due("off", false, x.setOn(i, false));
            CHECKS.due("off still", false, x.setOn(i, true));
            CHECKS.due("on again", true, x.setOn(i, i % 2 == 0));
        }
        for (int i = 0; i < 8; i++) {
            CHECKS.due("each for itself", i % 2 == 0, x.setOn(i, true));
        }
    }

    static void promise5NoSuchSnippet() {
        for (int none : Setups.noSnippets(4)) {
            OF_BUSY.due("snippet " + none, INDEX, x -> x.setOn(none, false));
            OF_BUSY.due("snippet " + none + " on", INDEX, x -> x.setOn(none, true));
        }
        CHECKS.due("the last one", true, Setups.busy().setOn(3, false));
    }

    // Promise 6: putCharacter.

    /** "Throws IllegalStateException if the body has 12 parts." */
    static void promise6TheTwelfthPartIsPutAndNoThirteenth() {
        ShorthandRules x = Expanders.with(1);
        for (int parts = 1; parts <= 12; parts++) {
            CHECKS.due("one more than " + (parts - 1), parts, x.putCharacter(0, 'a'));
        }
        OF_BUSY.due("a 13th", STATE, y -> y.putCharacter(2, 'a'));
    }

    /** "... or the size of some snippet would be greater than 200 then": a character has the size 1. */
    static void promise6TheSizeOf200AndNot201() {
        CHECKS.due("198 + 1", 7, Setups.sized(198).putCharacter(2, 'a'));
        CHECKS.due("199 + 1", 8, Setups.sized(199).putCharacter(2, 'a'));
        dueOfSize(200, "200 + 1", x -> x.putCharacter(2, 'a'));
    }

    private static void dueOfSize(int size, String what, Refusals.Call call) {
        new Refusals(CHECKS, "a", () -> Setups.sized(size)).due(what, STATE, call);
    }

    private static void dueOverOthers(int size, String what, Refusals.Call call) {
        new Refusals(CHECKS, "a", () -> Setups.sizedOverOthers(size)).due(what, STATE, call);
    }

    /** "Some snippet" can be one that comes to the changed one, over another one too. */
    static void promise6TheSizeOfAnotherOne() {
        CHECKS.due("199 + 1 of 2, directly", 2, Setups.sizedOverOthers(199).putCharacter(3, 'a'));
        CHECKS.due("199 + 1 of 2, over 3", 1, Setups.sizedOverOthers(199).putCharacter(4, 'a'));
        dueOverOthers(200, "200 + 1 of 2, directly", x -> x.putCharacter(3, 'a'));
        dueOverOthers(200, "200 + 1 of 2, over 3", x -> x.putCharacter(4, 'a'));
        CHECKS.due("one to which 2 does not come", 1, Setups.sizedOverOthers(200).putCharacter(5, 'a'));
    }

    /**
     * "Some snippet" can have the lowest number or the highest one, and come to the changed one over all
     * six others: each of them is twice in the one that comes to it, and the last one once in the outermost.
     */
    static void promise6TheSizeOfTheOutermostOfEight() {
        for (boolean isLowestOutermost : new boolean[] {true, false}) {
            int innermost = isLowestOutermost ? 7 : 0;
            CHECKS.due("136 + 64", 1, doubling(isLowestOutermost, 9).putCharacter(innermost, 'a'));
            new Refusals(CHECKS, "a", () -> doubling(isLowestOutermost, 10))
                    .due("137 + 64", STATE, x -> x.putCharacter(innermost, 'a'));
        }
    }

    /** The outermost one has the size 127 and more: (2 * (2 * (... 0 ...) + 2) + 2) + 1. */
    private static ShorthandRules doubling(boolean isLowestOutermost, int more) {
        ShorthandRules x = Expanders.with(8);
        for (int i = 6; i >= 0; i--) {
            int outer = isLowestOutermost ? i : 7 - i;
            int inner = isLowestOutermost ? i + 1 : 6 - i;
            x.putSnippet(outer, inner);
            if (i > 0) {
                x.putSnippet(outer, inner);
            }
        }
        int outermost = isLowestOutermost ? 0 : 7;
        for (int i = 0; i < more; i++) {
            x.putStop(outermost);
        }
        return x;
    }

    static void promise6EachCharacterThatCanBeTypedIsPut() {
        for (int character = 0; character <= Character.MAX_VALUE; character++) {
            char put = (char) character;
            ShorthandRules x = Expanders.with(1);
            CHECKS.due("character " + character, typed(put, 1), Checks.answerOf(() -> x.putCharacter(0, put)));
        }
    }

    static void promise6ACharacterThatCannotBeTypedChangesNothing() {
        for (char character : "A`{/:-<!Z|\u00e9\u0660\u0000\uffff".toCharArray()) {
            OF_BUSY.due("character " + (int) character, ARGUMENT, x -> x.putCharacter(0, character));
        }
    }

    static void promise6NoSuchSnippet() {
        for (int none : Setups.noSnippets(4)) {
            OF_BUSY.due("snippet " + none, INDEX, x -> x.putCharacter(none, 'a'));
        }
        CHECKS.due("the last one", 3, Setups.busy().putCharacter(3, 'a'));
    }

    static void promise6TheFirstExceptionThatApplies() {
        OF_BUSY.due("no snippet, not to be typed", INDEX, x -> x.putCharacter(4, 'A'));
        OF_BUSY.due("not to be typed, 12 parts", ARGUMENT, x -> x.putCharacter(2, 'A'));
        new Refusals(CHECKS, "a", () -> Setups.sized(200))
                .due("not to be typed, the size 201", ARGUMENT, x -> x.putCharacter(2, 'A'));
    }

    // Promise 7: putSnippet.

    static void promise7TheTwelfthPartIsPutAndNoThirteenth() {
        ShorthandRules x = Expanders.with(2);
        for (int parts = 1; parts <= 12; parts++) {
            CHECKS.due("one more than " + (parts - 1), parts, x.putSnippet(0, 1));
        }
        OF_BUSY.due("a 13th", STATE, y -> y.putSnippet(2, 1));
    }

    /** The size is "1 more than its size for a snippet". */
    static void promise7TheSizeOf200AndNot201() {
        CHECKS.due("199 + 1, of a snippet without parts", 8, Setups.sized(199).putSnippet(2, 3));
        dueOfSize(200, "200 + 1, of a snippet without parts", x -> x.putSnippet(2, 3));
        CHECKS.due("187 + 13", 8, Setups.sized(187).putSnippet(2, 0));
        dueOfSize(188, "188 + 13", x -> x.putSnippet(2, 0));
        CHECKS.due("the size 156 is far from 200", 1, Setups.sized(183).putSnippet(3, 1));
        dueOfSize(200, "1 + 200, of a snippet without other parts", x -> x.putSnippet(3, 2));
        CHECKS.due("1 + 199", 1, Setups.sized(199).putSnippet(3, 2));
    }

    static void promise7TheSizeOfAnotherOne() {
        CHECKS.due("199 + 1 of 2", 2, Setups.sizedOverOthers(199).putSnippet(3, 5));
        CHECKS.due("199 + 1 of 2, over 3", 1, Setups.sizedOverOthers(199).putSnippet(4, 5));
        dueOverOthers(200, "200 + 1 of 2", x -> x.putSnippet(3, 5));
        dueOverOthers(200, "200 + 1 of 2, over 3", x -> x.putSnippet(4, 5));
        dueOverOthers(188, "188 + 13 of 2, over 3", x -> x.putSnippet(4, 0));
        CHECKS.due("187 + 13 of 2, over 3", 1, Setups.sizedOverOthers(187).putSnippet(4, 0));
    }

    /** Over 8 snippets, one in another, each with twice the one below it. */
    static void promise7SizesThatDouble() {
        ShorthandRules x = Expanders.with(8);
        for (int i = 1; i < 7; i++) {
            x.putSnippet(i, i - 1);
            CHECKS.due("twice the one below " + i, 2, x.putSnippet(i, i - 1));
        }
        CHECKS.due("127 of 7", 1, x.putSnippet(7, 6));
        CHECKS.dueThrow("254 of 7", STATE, () -> x.putSnippet(7, 6));
        CHECKS.due("127 + 64 of 7, by 0", 1, x.putStop(0));
        CHECKS.dueThrow("191 + 64 of 7, by 0", STATE, () -> x.putStop(0));
        CHECKS.due("the depth", 8, x.depth(7));
        CHECKS.due("the stops", 64, x.stopsOf(7));
    }

    /** "Throws UnsupportedOperationException if the other one is the same, or comes to it." */
    static void promise7TheSameOrOneThatComesToIt() {
        for (int i = 0; i < 4; i++) {
            int snippet = i;
            OF_BUSY.due("the same, " + i, UNSUPPORTED, x -> x.putSnippet(snippet, snippet));
        }
        OF_BUSY.due("one of which it is a part", UNSUPPORTED, x -> x.putSnippet(1, 3));
        OF_BUSY.due("one of which it is the first of a choice", UNSUPPORTED, x -> x.putSnippet(0, 3));
        Refusals ofChain = new Refusals(CHECKS, "a", () -> chain(8));
        for (int i = 1; i < 8; i++) {
            int last = i;
            ofChain.due("over " + (i - 1) + " others", UNSUPPORTED, x -> x.putSnippet(last, 0));
        }
        CHECKS.due("the other way it can be put", 2, chain(8).putSnippet(0, 7));
        ShorthandRules x = chain(8);
        x.clearBody(3);
        CHECKS.due("the chain is cut, and 7 no more come to", 1, x.putSnippet(7, 0));
        CHECKS.dueThrow("but round the other side", UNSUPPORTED, () -> x.putSnippet(3, 4));
    }

    /** 8 snippets, of which so many are a chain, each with the next one as its only part. */
    private static ShorthandRules chain(int length) {
        ShorthandRules x = Expanders.with(8);
        for (int i = 0; i + 1 < length; i++) {
            x.putSnippet(i, i + 1);
        }
        return x;
    }

    /** "Throws IndexOutOfBoundsException if there is no such snippet, for either." */
    static void promise7NoSuchSnippetForEither() {
        for (int none : Setups.noSnippets(4)) {
            OF_BUSY.due("snippet " + none, INDEX, x -> x.putSnippet(none, 0));
            OF_BUSY.due("other " + none, INDEX, x -> x.putSnippet(0, none));
            OF_BUSY.due("both " + none, INDEX, x -> x.putSnippet(none, none));
        }
        CHECKS.due("the last one", 3, Setups.busy().putSnippet(3, 0));
        ShorthandRules x = Expanders.with(2);
        CHECKS.due("the last one as the other one", 1, x.putSnippet(0, 1));
    }

    static void promise7TheFirstExceptionThatApplies() {
        OF_BUSY.due("no such other one, 12 parts", INDEX, x -> x.putSnippet(2, 4));
        OF_BUSY.due("the same, 12 parts", UNSUPPORTED, x -> x.putSnippet(2, 2));
        OF_BUSY.due("comes to it, 12 parts", UNSUPPORTED, x -> x.putSnippet(2, 3));
        Refusals of200 = new Refusals(CHECKS, "a", () -> Setups.sized(200));
        of200.due("no such other one, the size 201", INDEX, x -> x.putSnippet(2, 6));
        of200.due("the same, the size 401", UNSUPPORTED, x -> x.putSnippet(2, 2));
        of200.due("comes to it, the size 201", UNSUPPORTED, x -> x.putSnippet(0, 2));
    }

    // Promise 8: putChoice.

    static void promise8TheTwelfthPartIsPutAndNoThirteenth() {
        ShorthandRules x = Expanders.with(3);
        for (int parts = 1; parts <= 12; parts++) {
            CHECKS.due("one more than " + (parts - 1), parts, x.putChoice(0, 1, 2));
        }
        OF_BUSY.due("a 13th", STATE, y -> y.putChoice(2, 0, 1));
    }

    /** The size is "1 more than the greater one of both sizes for a choice". */
    static void promise8TheSizeOf200AndNot201() {
        CHECKS.due("199 + 1, of snippets without parts", 8, Setups.sized(199).putChoice(2, 3, 4));
        dueOfSize(200, "200 + 1, of snippets without parts", x -> x.putChoice(2, 3, 4));
        CHECKS.due("187 + 13, by the first one", 8, Setups.sized(187).putChoice(2, 0, 3));
        CHECKS.due("187 + 13, by the second one", 8, Setups.sized(187).putChoice(2, 3, 0));
        CHECKS.due("187 + 13, by both", 8, Setups.sized(187).putChoice(2, 0, 0));
        dueOfSize(188, "188 + 13, by the first one", x -> x.putChoice(2, 0, 3));
        dueOfSize(188, "188 + 13, by the second one", x -> x.putChoice(2, 3, 0));
        dueOfSize(188, "188 + 13, by both", x -> x.putChoice(2, 0, 0));
    }

    /** Both count for the size, whichever one counts for what the snippet gives. */
    static void promise8TheSizeDoesNotDependOnWhichOneCounts() {
        for (boolean isSecond : new boolean[] {false, true}) {
            Refusals of188 = new Refusals(CHECKS, "a", () -> chosen(Setups.sized(188), isSecond));
            of188.due("the first is too large", STATE, x -> x.putChoice(2, 0, 3));
            of188.due("the second is too large", STATE, x -> x.putChoice(2, 3, 0));
        }
    }

    private static ShorthandRules chosen(ShorthandRules x, boolean isSecond) {
        x.choose(2, isSecond);
        return x;
    }

    /** 2 has the size 187 + 13 by its choice of 0 and 5, as long as 5 has a size of at most 12. */
    private static ShorthandRules choiceOf12(boolean isFirst, int sizeOf5) {
        ShorthandRules x = Setups.sized(187);
        x.putChoice(2, isFirst ? 5 : 0, isFirst ? 0 : 5);
        for (int i = 0; i < sizeOf5 / 5; i++) {
            x.putDate(5, 0, 'm');
        }
        for (int i = 0; i < sizeOf5 % 5; i++) {
            x.putStop(5);
        }
        return x;
    }

    static void promise8TheSmallerOneOfBothMayGrowUpToTheGreaterOne() {
        for (boolean isFirst : new boolean[] {true, false}) {
            CHECKS.due("11 + 1 = 12", 4, choiceOf12(isFirst, 11).putCharacter(5, 'a'));
            new Refusals(CHECKS, "a", () -> choiceOf12(isFirst, 12))
                    .due("12 + 1 = 13", STATE, x -> x.putCharacter(5, 'a'));
            new Refusals(CHECKS, "a", () -> choiceOf12(isFirst, 10))
                    .due("10 + 5 = 15", STATE, x -> x.putDate(5, 0, 'n'));
        }
    }

    static void promise8TheSizeOfAnotherOne() {
        CHECKS.due("199 + 1 of 2", 2, Setups.sizedOverOthers(199).putChoice(3, 5, 4));
        CHECKS.due("199 + 1 of 2, over 3", 1, Setups.sizedOverOthers(199).putChoice(4, 5, 5));
        dueOverOthers(200, "200 + 1 of 2", x -> x.putChoice(3, 5, 4));
        dueOverOthers(200, "200 + 1 of 2, over 3", x -> x.putChoice(4, 5, 5));
    }

    /** "... a choice of two snippets, which can be the same one." */
    static void promise8TwiceTheSameOne() {
        ShorthandRules x = Expanders.with(2);
        Expanders.body(x, 1, "a|");
        CHECKS.due("putChoice", 1, x.putChoice(0, 1, 1));
        CHECKS.due("by the first one", "a|", Expanders.given(x, 0));
        x.choose(0, true);
        CHECKS.due("by the second one", "a|", Expanders.given(x, 0));
        CHECKS.due("it comes to it", true, x.comesTo(0, 1));
        CHECKS.due("the depth", 2, x.depth(0));
    }

    static void promise8OneOfBothIsTheSameOrComesToIt() {
        OF_BUSY.due("the first is the same", UNSUPPORTED, x -> x.putChoice(0, 0, 1));
        OF_BUSY.due("the second is the same", UNSUPPORTED, x -> x.putChoice(0, 1, 0));
        OF_BUSY.due("both are the same", UNSUPPORTED, x -> x.putChoice(0, 0, 0));
        OF_BUSY.due("the first comes to it", UNSUPPORTED, x -> x.putChoice(0, 3, 1));
        OF_BUSY.due("the second comes to it", UNSUPPORTED, x -> x.putChoice(0, 1, 3));
        OF_BUSY.due("both come to it", UNSUPPORTED, x -> x.putChoice(0, 3, 3));
        Refusals ofChain = new Refusals(CHECKS, "a", () -> chain(7));
        ofChain.due("the first over 5 others", UNSUPPORTED, x -> x.putChoice(6, 0, 7));
        ofChain.due("the second over 5 others", UNSUPPORTED, x -> x.putChoice(6, 7, 0));
        CHECKS.due("neither", 2, chain(7).putChoice(0, 6, 7));
    }

    static void promise8OneThatComesToItByTheOneThatDoesNotCount() {
        ShorthandRules x = Expanders.with(4);
        x.putChoice(1, 0, 2);
        x.putChoice(3, 1, 1);
        CHECKS.dueThrow("2 counts not for 1", UNSUPPORTED, () -> x.putChoice(2, 1, 0));
        CHECKS.dueThrow("nor over 3", UNSUPPORTED, () -> x.putChoice(2, 0, 3));
        x.choose(1, true);
        CHECKS.dueThrow("0 counts not for 1", UNSUPPORTED, () -> x.putChoice(0, 2, 1));
        CHECKS.dueThrow("nor over 3", UNSUPPORTED, () -> x.putChoice(0, 3, 2));
    }

    /** "Throws IndexOutOfBoundsException if there is no such snippet, for any of them." */
    static void promise8NoSuchSnippetForAnyOfThem() {
        for (int none : Setups.noSnippets(4)) {
            OF_BUSY.due("snippet " + none, INDEX, x -> x.putChoice(none, 0, 1));
            OF_BUSY.due("first " + none, INDEX, x -> x.putChoice(3, none, 1));
            OF_BUSY.due("second " + none, INDEX, x -> x.putChoice(3, 1, none));
        }
        OF_BUSY.due("none of them", INDEX, x -> x.putChoice(-1, -1, -1));
        CHECKS.due("the last one", 3, Setups.busy().putChoice(3, 0, 2));
        CHECKS.due("the last one as the first and the second one", 1, Expanders.with(8).putChoice(0, 7, 7));
    }

    static void promise8TheFirstExceptionThatApplies() {
        OF_BUSY.due("the first is the same, no such second one", INDEX, x -> x.putChoice(0, 0, 4));
        OF_BUSY.due("the second is the same, no such first one", INDEX, x -> x.putChoice(0, 4, 0));
        OF_BUSY.due("comes to it, no such second one", INDEX, x -> x.putChoice(0, 3, -1));
        OF_BUSY.due("no such first one, 12 parts", INDEX, x -> x.putChoice(2, 4, 0));
        OF_BUSY.due("the first is the same, 12 parts", UNSUPPORTED, x -> x.putChoice(2, 2, 0));
        OF_BUSY.due("the second comes to it, 12 parts", UNSUPPORTED, x -> x.putChoice(2, 0, 3));
        Refusals of200 = new Refusals(CHECKS, "a", () -> Setups.sized(200));
        of200.due("no such second one, the size 201", INDEX, x -> x.putChoice(2, 3, 6));
        of200.due("the first is the same, the size 401", UNSUPPORTED, x -> x.putChoice(2, 2, 3));
        of200.due("the second comes to it, the size 201", UNSUPPORTED, x -> x.putChoice(0, 3, 2));
    }

    // Promise 9: putDate.

    static void promise9TheTwelfthPartIsPutAndNoThirteenth() {
        ShorthandRules x = Expanders.with(1);
        for (int parts = 1; parts <= 12; parts++) {
            CHECKS.due("one more than " + (parts - 1), parts, x.putDate(0, 0, 'n'));
        }
        OF_BUSY.due("a 13th", STATE, y -> y.putDate(2, 0, 'n'));
    }

    /** The size is "5 for a date", in each form and whatever it gives. */
    static void promise9TheSizeOf200AndNot201() {
        for (char form : new char[] {'n', 'w', 'm'}) {
            CHECKS.due("194 + 5, form " + form, 7, Setups.sized(194).putDate(2, -99, form));
            CHECKS.due("195 + 5, form " + form, 8, Setups.sized(195).putDate(2, -99, form));
            for (int size = 196; size <= 200; size++) {
                dueOfSize(size, size + " + 5, form " + form, x -> x.putDate(2, -99, form));
            }
        }
    }

    static void promise9TheSizeOfAnotherOne() {
        CHECKS.due("195 + 5 of 2", 2, Setups.sizedOverOthers(195).putDate(3, 0, 'w'));
        CHECKS.due("195 + 5 of 2, over 3", 1, Setups.sizedOverOthers(195).putDate(4, 0, 'w'));
        dueOverOthers(196, "196 + 5 of 2", x -> x.putDate(3, 0, 'w'));
        dueOverOthers(196, "196 + 5 of 2, over 3", x -> x.putDate(4, 0, 'w'));
    }

    /** "Throws IllegalArgumentException if the days are not between -99 and 99 ..." */
    static void promise9TheDaysFromMinus99To99() {
        for (int days = -99; days <= 99; days++) {
            CHECKS.due(days + " days", 4, Setups.busy().putDate(1, days, 'n'));
        }
        int[] refused = {-100, 100, -101, 101, -99 - 256, 99 + 256, 65536, -65536,
                Integer.MIN_VALUE, Integer.MIN_VALUE + 1, Integer.MAX_VALUE};
        for (int days : refused) {
            OF_BUSY.due(days + " days", ARGUMENT, x -> x.putDate(0, days, 'n'));
        }
    }

    /** "... or there is no such form": each of all characters. */
    static void promise9EachForm() {
        for (int form = 0; form <= Character.MAX_VALUE; form++) {
            char put = (char) form;
            ShorthandRules x = Expanders.with(1);
            Object want = put == 'n' || put == 'w' || put == 'm' ? (Object) 1 : "throws.IllegalArgumentException";
            CHECKS.due("form " + form, want, Checks.answerOf(() -> x.putDate(0, 0, put)));
        }
        for (char form : "lovxNWM \u0000\uffff".toCharArray()) {
            OF_BUSY.due("form " + (int) form, ARGUMENT, x -> x.putDate(0, 0, form));
        }
    }

    static void promise9NoSuchSnippet() {
        for (int none : Setups.noSnippets(4)) {
            OF_BUSY.due("snippet " + none, INDEX, x -> x.putDate(none, 0, 'n'));
        }
        CHECKS.due("the last one", 3, Setups.busy().putDate(3, 0, 'n'));
    }

    static void promise9TheFirstExceptionThatApplies() {
        OF_BUSY.due("no snippet, no such days", INDEX, x -> x.putDate(4, 100, 'n'));
        OF_BUSY.due("no snippet, no such form", INDEX, x -> x.putDate(4, 0, 'x'));
        OF_BUSY.due("no such days, 12 parts", ARGUMENT, x -> x.putDate(2, -100, 'n'));
        OF_BUSY.due("no such form, 12 parts", ARGUMENT, x -> x.putDate(2, 0, 'x'));
        Refusals of196 = new Refusals(CHECKS, "a", () -> Setups.sized(196));
        of196.due("no such days, the size 201", ARGUMENT, x -> x.putDate(2, 100, 'n'));
        of196.due("no such form, the size 201", ARGUMENT, x -> x.putDate(2, 0, 'x'));
    }

    // Promise 10: putStop.

    static void promise10TheTwelfthPartIsPutAndNoThirteenth() {
        ShorthandRules x = Expanders.with(1);
        for (int parts = 1; parts <= 12; parts++) {
            CHECKS.due("one more than " + (parts - 1), parts, x.putStop(0));
        }
        OF_BUSY.due("a 13th", STATE, y -> y.putStop(2));
    }

    static void promise10TheSizeOf200AndNot201() {
        CHECKS.due("199 + 1", 8, Setups.sized(199).putStop(2));
        dueOfSize(200, "200 + 1", x -> x.putStop(2));
    }

    static void promise10TheSizeOfAnotherOne() {
        CHECKS.due("199 + 1 of 2", 2, Setups.sizedOverOthers(199).putStop(3));
        CHECKS.due("199 + 1 of 2, over 3", 1, Setups.sizedOverOthers(199).putStop(4));
        dueOverOthers(200, "200 + 1 of 2", x -> x.putStop(3));
        dueOverOthers(200, "200 + 1 of 2, over 3", x -> x.putStop(4));
    }

    static void promise10NoSuchSnippet() {
        for (int none : Setups.noSnippets(4)) {
            OF_BUSY.due("snippet " + none, INDEX, x -> x.putStop(none));
        }
        CHECKS.due("the last one", 3, Setups.busy().putStop(3));
        new Refusals(CHECKS, "a", () -> Setups.sized(200)).due("no snippet, a size 200", INDEX, x -> x.putStop(6));
    }

    // Promise 11: clearBody.

    static void promise11OfNoPartsToTwelve() {
        for (int parts = 0; parts <= 12; parts++) {
            ShorthandRules x = Setups.with("t", "a|b|c|d|e|f|".substring(0, parts));
            CHECKS.due("how many there were", parts, x.clearBody(0));
            CHECKS.due("then none", 0, x.clearBody(0));
            CHECKS.due("it gives nothing", "", Expanders.given(x, 0));
            for (int i = 1; i <= 12; i++) {
                CHECKS.due("12 can be put again", i, x.putStop(0));
            }
            CHECKS.dueThrow("and no 13th", STATE, () -> x.putStop(0));
        }
    }

    /** The sizes of others become less by this, so that they have room again. */
    static void promise11GivesRoomToOthers() {
        ShorthandRules x = Setups.sizedOverOthers(200);
        CHECKS.dueThrow("no room", STATE, () -> x.putStop(2));
        CHECKS.due("the part of 3", 1, x.clearBody(3));
        CHECKS.due("room for 1", 8, x.putStop(2));
        CHECKS.dueThrow("and no more", STATE, () -> x.putStop(2));
        CHECKS.due("the parts of 0, which is 14 times in 2", 12, x.clearBody(0));
        CHECKS.due("room for 5 now", 9, x.putDate(2, 0, 'n'));
    }

    static void promise11NoSuchSnippet() {
        for (int none : Setups.noSnippets(4)) {
            OF_BUSY.due("snippet " + none, INDEX, x -> x.clearBody(none));
        }
        CHECKS.due("the last one", 2, Setups.busy().clearBody(3));
    }

    // Promise 12: choose, "at first the first ones".

    static void promise12OfNoChoicesAndOfTwelve() {
        ShorthandRules x = Expanders.with(4);
        CHECKS.due("without choices, at first", false, x.choose(3, true));
        CHECKS.due("without choices, then", true, x.choose(3, false));
        Expanders.body(x, 0, "a");
        Expanders.body(x, 1, "b");
        for (int i = 0; i < 12; i++) {
            x.putChoice(2, 0, 1);
        }
        CHECKS.due("the first ones", "aaaaaaaaaaaa", Expanders.given(x, 2));
        CHECKS.due("at first", false, x.choose(2, true));
        CHECKS.due("the second ones", "bbbbbbbbbbbb", Expanders.given(x, 2));
        CHECKS.due("the same again", true, x.choose(2, true));
        CHECKS.due("the second ones still", "bbbbbbbbbbbb", Expanders.given(x, 2));
        CHECKS.due("back", true, x.choose(2, false));
        CHECKS.due("the first ones again", "aaaaaaaaaaaa", Expanders.given(x, 2));
    }

    static void promise12NoSuchSnippet() {
        for (int none : Setups.noSnippets(4)) {
            OF_BUSY.due("snippet " + none, INDEX, x -> x.choose(none, false));
            OF_BUSY.due("snippet " + none + ", the second", INDEX, x -> x.choose(none, true));
        }
        CHECKS.due("the last one", true, Setups.busy().choose(3, false));
    }

    // Promise 13: setToday, "at first the day 99", "if it is not between 99 and 9999".

    static void promise13From99To9999() {
        ShorthandRules x = new ShorthandRules();
        CHECKS.due("99 at first", 99, x.setToday(99));
        CHECKS.due("the least", 99, x.setToday(100));
        CHECKS.due("one above it", 100, x.setToday(9998));
        CHECKS.due("one below the greatest", 9998, x.setToday(9999));
        CHECKS.due("the greatest", 9999, x.setToday(99));
        int[] refused = {98, 10000, 97, 10001, 0, 1, -1, -99, -9999, 99 + 65536, 9999 - 65536,
                Integer.MIN_VALUE, Integer.MIN_VALUE + 99, Integer.MAX_VALUE};
        for (int day : refused) {
            OF_BUSY.due("day " + day, ARGUMENT, y -> y.setToday(day));
            OF_NEW.due("day " + day, ARGUMENT, y -> y.setToday(day));
        }
        CHECKS.due("a refused one is not the day before", 500, Setups.busy().setToday(99));
    }
}
