import java.util.NoSuchElementException;

/** The bounds of promises 14 to 19: a test for each sentence of the document that names one. */
public final class GiftBoundsTest {
    private static final Class<IndexOutOfBoundsException> INDEX = IndexOutOfBoundsException.class;
    private static final Class<NoSuchElementException> NONE = NoSuchElementException.class;
    private static final int[] NO_INDEX = {-1, -2, Integer.MIN_VALUE, Integer.MIN_VALUE + 1, Integer.MAX_VALUE};

    private static final Checks CHECKS = new Checks();
    private static final Refusals OF_BUSY = new Refusals(CHECKS, Setups.BUSY_KEYS, Setups::busy);

    public static void main(String[] args) throws IllegalAccessException {
        NamedTests.run(GiftBoundsTest.class, CHECKS, 14, 19);
        CHECKS.end("GiftBoundsTest");
    }

    /** Gives the longest text that the size 200 leaves, 197 characters, by snippet 1. */
    private static ShorthandRules longest() {
        ShorthandRules x = Expanders.with(2);
        x.setToday(9999);
        for (int i = 0; i < 12; i++) {
            x.putDate(0, 99, 'n');
        }
        for (int i = 0; i < 3; i++) {
            x.putSnippet(1, 0);
        }
        for (int i = 0; i < 3; i++) {
            x.putDate(1, 98, 'n');
        }
        Expanders.body(x, 1, "ab");
        return x;
    }

    /** Has parts of each kind, and gives nothing but stops. */
    private static ShorthandRules stopsAlone() {
        ShorthandRules x = Expanders.with(3);
        x.putStop(0);
        x.putSnippet(0, 1);
        x.putChoice(0, 1, 2);
        x.putStop(2);
        x.choose(0, true);
        return x;
    }

    // Promise 14: lengthOf.

    static void promise14OfNothing() {
        CHECKS.due("no parts", 0, Expanders.with(1).lengthOf(0));
        CHECKS.due("stops alone", 0, stopsAlone().lengthOf(0));
        CHECKS.due("a snippet without parts", 0, stopsAlone().lengthOf(1));
    }

    static void promise14OfTheLongest() {
        ShorthandRules x = longest();
        CHECKS.due("3 * 60 + 3 * 5 + 2", 197, x.lengthOf(1));
        CHECKS.due("12 * 5", 60, x.lengthOf(0));
        CHECKS.dueThrow("nothing more fits", IllegalStateException.class, () -> x.putStop(1));
        CHECKS.due("the same still", 197, x.lengthOf(1));
        x.setToday(99);
        CHECKS.due("39 dates of 3 characters, and 2", 119, x.lengthOf(1));
    }

    /** A date has the size 5, but "what it gives" is as long as the text of its day. */
    static void promise14OfADateWhereItsLengthChanges() {
        CHECKS.due("0", 1, dated(0, 'n').lengthOf(0));
        CHECKS.due("9", 1, dated(9, 'n').lengthOf(0));
        CHECKS.due("10", 2, dated(10, 'n').lengthOf(0));
        CHECKS.due("99", 2, dated(99, 'n').lengthOf(0));
        CHECKS.due("100", 3, dated(100, 'n').lengthOf(0));
        CHECKS.due("999", 3, dated(999, 'n').lengthOf(0));
        CHECKS.due("1000", 4, dated(1000, 'n').lengthOf(0));
        CHECKS.due("9999", 4, dated(9999, 'n').lengthOf(0));
        CHECKS.due("10000", 5, dated(10000, 'n').lengthOf(0));
        CHECKS.due("10098", 5, dated(10098, 'n').lengthOf(0));
        CHECKS.due("mo", 2, dated(0, 'w').lengthOf(0));
        CHECKS.due("1.1", 3, dated(0, 'm').lengthOf(0));
        CHECKS.due("1.9", 3, dated(8, 'm').lengthOf(0));
        CHECKS.due("1.10", 4, dated(9, 'm').lengthOf(0));
        CHECKS.due("9.30", 4, dated(269, 'm').lengthOf(0));
        CHECKS.due("10.1", 4, dated(270, 'm').lengthOf(0));
        CHECKS.due("10.10", 5, dated(279, 'm').lengthOf(0));
        CHECKS.due("12.30", 5, dated(359, 'm').lengthOf(0));
    }

    static void promise14NoSuchSnippet() {
        for (int none : Setups.noSnippets(4)) {
            OF_BUSY.due("snippet " + none, INDEX, x -> x.lengthOf(none));
        }
        CHECKS.due("the last one, with 12 characters, 'w' and 5.24", 17, Setups.busy().lengthOf(3));
    }

    // Promise 15: characterOf.

    static void promise15FromTheFirstToTheLast() {
        ShorthandRules x = Setups.with("t", "|abc|");
        CHECKS.due("the first", 'a', x.characterOf(0, 0));
        CHECKS.due("the last but one", 'b', x.characterOf(0, 1));
        CHECKS.due("the last", 'c', x.characterOf(0, 2));
        CHECKS.dueThrow("behind it", NONE, () -> x.characterOf(0, 3));
        CHECKS.due("the last of 197", 'b', longest().characterOf(1, 196));
        CHECKS.dueThrow("behind 197", NONE, () -> longest().characterOf(1, 197));
        CHECKS.dueThrow("the 201st", NONE, () -> longest().characterOf(1, 200));
        CHECKS.due("the only one", 'q', Setups.with("t", "q").characterOf(0, 0));
        CHECKS.dueThrow("behind the only one", NONE, () -> Setups.with("t", "q").characterOf(0, 1));
    }

    /** "Throws NoSuchElementException if there is no such character." */
    static void promise15NoSuchCharacter() {
        for (int index : NO_INDEX) {
            OF_BUSY.due("index " + index, NONE, x -> x.characterOf(0, index));
        }
        OF_BUSY.due("behind the last of three", NONE, x -> x.characterOf(0, 3));
        CHECKS.dueThrow("of nothing", NONE, () -> Expanders.with(1).characterOf(0, 0));
        CHECKS.dueThrow("of stops alone", NONE, () -> stopsAlone().characterOf(0, 0));
    }

    static void promise15NoSuchSnippet() {
        for (int none : Setups.noSnippets(4)) {
            OF_BUSY.due("snippet " + none, INDEX, x -> x.characterOf(none, 0));
        }
        CHECKS.due("the last one", '0', Setups.busy().characterOf(3, 0));
    }

    static void promise15TheFirstExceptionThatApplies() {
        OF_BUSY.due("no snippet, index -1", INDEX, x -> x.characterOf(4, -1));
        OF_BUSY.due("no snippet, the greatest index", INDEX, x -> x.characterOf(-1, Integer.MAX_VALUE));
    }

    /** One that gives the text of a day, from 0 to 10098. */
    private static ShorthandRules dated(int day, char form) {
        ShorthandRules x = Expanders.with(1);
        int today = Math.max(99, Math.min(9999, day));
        x.setToday(today);
        x.putDate(0, day - today, form);
        return x;
    }

    /** "... by the remainder of its number divided by 7": each day that can be. */
    static void promise15EachWeekday() {
        String[] names = {"mo", "tu", "we", "th", "fr", "sa", "su"};
        int next = 0;
        for (int day = 0; day <= 10098; day++) {
            CHECKS.due("the day " + day, names[next], Expanders.given(dated(day, 'w'), 0));
            next = next == 6 ? 0 : next + 1;
        }
    }

    /** "months have 30 days and a year has 12 of them, behind which the next year begins": each day that can be. */
    static void promise15EachMonthAndDay() {
        int month = 1;
        int dayOfMonth = 1;
        for (int day = 0; day <= 10098; day++) {
            CHECKS.due("the day " + day, month + "." + dayOfMonth, Expanders.given(dated(day, 'm'), 0));
            dayOfMonth++;
            if (dayOfMonth > 30) {
                dayOfMonth = 1;
                month = month == 12 ? 1 : month + 1;
            }
        }
    }

    static void promise15EachNumberOfADay() {
        for (int day = 0; day <= 10098; day++) {
            CHECKS.due("the day " + day, Integer.toString(day), Expanders.given(dated(day, 'n'), 0));
        }
    }

    /** "the day 0 is "1.1", the day 359 "12.30"", and the next year begins. */
    static void promise15TheDaysThatTheDocumentNames() {
        CHECKS.due("the day 0", "1.1", Expanders.given(dated(0, 'm'), 0));
        CHECKS.due("the day 359", "12.30", Expanders.given(dated(359, 'm'), 0));
        CHECKS.due("the day 360", "1.1", Expanders.given(dated(360, 'm'), 0));
    }

    // Promise 16: stopsOf.

    static void promise16OfNoneAndOfTheMost() {
        CHECKS.due("no parts", 0, Expanders.with(1).stopsOf(0));
        CHECKS.due("characters alone", 0, Setups.with("t", "abc").stopsOf(0));
        CHECKS.due("one", 1, Setups.with("t", "|").stopsOf(0));
        CHECKS.due("12", 12, Setups.mostStops().stopsOf(0));
        CHECKS.due("12 * 12", 144, Setups.mostStops().stopsOf(1));
        CHECKS.due("15 * 12 + 4", 184, Setups.mostStops().stopsOf(2));
        CHECKS.due("of a part and the one that counts", 2, stopsAlone().stopsOf(0));
    }

    static void promise16NoSuchSnippet() {
        for (int none : Setups.noSnippets(4)) {
            OF_BUSY.due("snippet " + none, INDEX, x -> x.stopsOf(none));
        }
        CHECKS.due("the last one", 1, Setups.busy().stopsOf(3));
    }

    // Promise 17: stopOf.

    static void promise17FromTheFirstToTheLast() {
        ShorthandRules x = Setups.with("t", "|ab||c|");
        CHECKS.due("ahead of all", 0, x.stopOf(0, 0));
        CHECKS.due("two at one place, the first", 2, x.stopOf(0, 1));
        CHECKS.due("two at one place, the second", 2, x.stopOf(0, 2));
        CHECKS.due("behind all", 3, x.stopOf(0, 3));
        CHECKS.dueThrow("behind the last", NONE, () -> x.stopOf(0, 4));
        CHECKS.due("the last of 184", 0, Setups.mostStops().stopOf(2, 183));
        CHECKS.dueThrow("behind 184", NONE, () -> Setups.mostStops().stopOf(2, 184));
        CHECKS.dueThrow("the 201st", NONE, () -> Setups.mostStops().stopOf(2, 200));
    }

    static void promise17NoSuchStop() {
        for (int index : NO_INDEX) {
            OF_BUSY.due("index " + index, NONE, x -> x.stopOf(0, index));
        }
        OF_BUSY.due("behind the last of three", NONE, x -> x.stopOf(0, 3));
        OF_BUSY.due("of a snippet without stops", NONE, x -> x.stopOf(2, 0));
        CHECKS.dueThrow("of nothing", NONE, () -> Expanders.with(1).stopOf(0, 0));
    }

    static void promise17NoSuchSnippet() {
        for (int none : Setups.noSnippets(4)) {
            OF_BUSY.due("snippet " + none, INDEX, x -> x.stopOf(none, 0));
        }
        CHECKS.due("the last one", 13, Setups.busy().stopOf(3, 0));
    }

    static void promise17TheFirstExceptionThatApplies() {
        OF_BUSY.due("no snippet, index -1", INDEX, x -> x.stopOf(4, -1));
        OF_BUSY.due("no snippet, the greatest index", INDEX, x -> x.stopOf(-1, Integer.MAX_VALUE));
    }

    /** The place of the last stop of the longest text. */
    static void promise17BehindTheLongestText() {
        ShorthandRules x = longest();
        x.clearBody(1);
        for (int i = 0; i < 3; i++) {
            x.putSnippet(1, 0);
        }
        for (int i = 0; i < 3; i++) {
            x.putDate(1, 99, 'n');
        }
        Expanders.body(x, 1, "a|");
        CHECKS.due("196 characters ahead", 196, x.stopOf(1, 0));
        CHECKS.due("the length", 196, x.lengthOf(1));
    }

    // Promise 18: comesTo.

    /** "no snippet comes to itself." */
    static void promise18NotToItself() {
        for (int i = 0; i < 4; i++) {
            CHECKS.due("snippet " + i, false, Setups.busy().comesTo(i, i));
        }
        CHECKS.due("one without parts", false, Expanders.with(1).comesTo(0, 0));
    }

    /** "directly or over others": as many as there can be. */
    static void promise18OverNoneToSix() {
        ShorthandRules x = Expanders.with(8);
        for (int i = 0; i < 7; i++) {
            x.putSnippet(i, i + 1);
        }
        for (int i = 0; i < 8; i++) {
            for (int j = 0; j < 8; j++) {
                CHECKS.due(i + " to " + j, i < j, x.comesTo(i, j));
            }
        }
        x.clearBody(6);
        CHECKS.due("6 to 7 no more", false, x.comesTo(6, 7));
        CHECKS.due("0 to 7 no more", false, x.comesTo(0, 7));
        CHECKS.due("0 to 6 still", true, x.comesTo(0, 6));
    }

    /** "or one of both of a choice of it", whichever one counts. */
    static void promise18ToBothOfAChoice() {
        for (boolean isSecond : new boolean[] {false, true}) {
            ShorthandRules x = Expanders.with(4);
            x.putChoice(0, 1, 2);
            x.choose(0, isSecond);
            CHECKS.due("to the first one", true, x.comesTo(0, 1));
            CHECKS.due("to the second one", true, x.comesTo(0, 2));
            CHECKS.due("to no other one", false, x.comesTo(0, 3));
        }
    }

    /** "Throws IndexOutOfBoundsException if there is no such snippet, for either." */
    static void promise18NoSuchSnippetForEither() {
        for (int none : Setups.noSnippets(4)) {
            OF_BUSY.due("snippet " + none, INDEX, x -> x.comesTo(none, 0));
            OF_BUSY.due("other " + none, INDEX, x -> x.comesTo(3, none));
            OF_BUSY.due("both " + none, INDEX, x -> x.comesTo(none, none));
        }
        CHECKS.due("the last one", true, Setups.busy().comesTo(3, 0));
        CHECKS.due("the last one as the other one", false, Setups.busy().comesTo(0, 3));
    }

    // Promise 19: depth, "itself included".

    static void promise19FromOneToEight() {
        ShorthandRules x = Expanders.with(8);
        CHECKS.due("without parts", 1, x.depth(0));
        Expanders.body(x, 0, "a|");
        x.putDate(0, 0, 'n');
        CHECKS.due("with parts that are no snippets", 1, x.depth(0));
        for (int i = 1; i < 8; i++) {
            x.putSnippet(i, i - 1);
            CHECKS.due("one more in it", i + 1, x.depth(i));
        }
        CHECKS.due("the innermost one", 1, x.depth(0));
    }

    /** "the greatest number ... that a snippet can give": over both of a choice, and of all parts. */
    static void promise19TheGreatestOfAllParts() {
        for (boolean isSecond : new boolean[] {false, true}) {
            ShorthandRules x = Expanders.with(6);
            x.putSnippet(1, 0);
            x.putSnippet(2, 1);
            x.putChoice(3, 0, 2);
            x.putChoice(4, 2, 0);
            x.putSnippet(5, 0);
            x.putSnippet(5, 1);
            x.putSnippet(5, 0);
            x.choose(3, isSecond);
            x.choose(4, isSecond);
            CHECKS.due("over the second one", 4, x.depth(3));
            CHECKS.due("over the first one", 4, x.depth(4));
            CHECKS.due("over a part between others", 3, x.depth(5));
        }
    }

    static void promise19NoSuchSnippet() {
        for (int none : Setups.noSnippets(4)) {
            OF_BUSY.due("snippet " + none, INDEX, x -> x.depth(none));
        }
        CHECKS.due("the last one", 2, Setups.busy().depth(3));
    }
}
