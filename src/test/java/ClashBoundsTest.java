import java.util.ArrayList;
import java.util.List;
import java.util.NoSuchElementException;

/** The bounds of promises 20 to 22: a test for each sentence of the document that names one. */
public final class ClashBoundsTest {
    private static final Class<IndexOutOfBoundsException> INDEX = IndexOutOfBoundsException.class;
    private static final Class<NoSuchElementException> NONE = NoSuchElementException.class;

    private static final Checks CHECKS = new Checks();
    private static final Refusals OF_BUSY = new Refusals(CHECKS, Setups.BUSY_KEYS, Setups::busy);

    public static void main(String[] args) throws IllegalAccessException {
        NamedTests.run(ClashBoundsTest.class, CHECKS, 20, 22);
        CHECKS.end("ClashBoundsTest");
    }

    private static ShorthandRules withTriggers(String... triggers) {
        ShorthandRules x = Expanders.with(triggers.length);
        for (int i = 0; i < triggers.length; i++) {
            Expanders.trigger(x, i, triggers[i]);
        }
        return x;
    }

    /** All triggers of 'a' and 'b', with none and up to 6 characters. */
    private static List<String> triggers() {
        List<String> all = new ArrayList<>();
        all.add("");
        for (int i = 0; i < all.size(); i++) {
            if (all.get(i).length() < 6) {
                all.add(all.get(i) + "a");
                all.add(all.get(i) + "b");
            }
        }
        return all;
    }

    /** "... an end of a proper beginning of its trigger": each beginning but the whole is looked at. */
    private static boolean isTypedEarlier(String other, String trigger) {
        for (int length = 1; length < trigger.length(); length++) {
            if (trigger.substring(0, length).endsWith(other)) {
                return true;
            }
        }
        return false;
    }

    static void promise20OfEachPairOfTriggers() {
        List<String> all = triggers();
        CHECKS.due("so many triggers", 127, all.size());
        for (String first : all) {
            for (String second : all) {
                ShorthandRules x = withTriggers(first, second);
                boolean haveTriggers = !first.isEmpty() && !second.isEmpty();
                CHECKS.due("'" + first + "' by '" + second + "' with the higher number",
                        haveTriggers && isTypedEarlier(second, first), x.isShadowedBy(0, 1));
                CHECKS.due("'" + second + "' by '" + first + "' with the lower number",
                        haveTriggers && (first.equals(second) || isTypedEarlier(first, second)),
                        x.isShadowedBy(1, 0));
            }
        }
    }

    /** "is the same and the other one has the lower number": one below, the same number, one above. */
    static void promise20TheSameTrigger() {
        ShorthandRules x = withTriggers("aaaaaa", "aaaaaa", "aaaaaa", "", "", "");
        CHECKS.due("one below", true, x.isShadowedBy(1, 0));
        CHECKS.due("itself", false, x.isShadowedBy(1, 1));
        CHECKS.due("one above", false, x.isShadowedBy(1, 2));
        CHECKS.due("no triggers, one below", false, x.isShadowedBy(4, 3));
        CHECKS.due("no triggers, itself", false, x.isShadowedBy(4, 4));
        CHECKS.due("no triggers, one above", false, x.isShadowedBy(4, 5));
    }

    /** "both are on and have triggers." */
    static void promise20BothAreOnAndHaveTriggers() {
        for (int i = 0; i < 4; i++) {
            ShorthandRules x = withTriggers("ab", "ab", "abc");
            boolean isFirstOn = i % 2 == 0;
            boolean areOthersOn = i / 2 == 0;
            x.setOn(0, isFirstOn);
            x.setOn(1, areOthersOn);
            x.setOn(2, areOthersOn);
            CHECKS.due("the same, " + i, isFirstOn && areOthersOn, x.isShadowedBy(1, 0));
            CHECKS.due("a beginning, " + i, isFirstOn && areOthersOn, x.isShadowedBy(2, 0));
        }
        ShorthandRules x = withTriggers("ab", "ab", "abc");
        x.clearTrigger(0);
        CHECKS.due("the same no more", false, x.isShadowedBy(1, 0));
        CHECKS.due("a beginning no more", false, x.isShadowedBy(2, 0));
        CHECKS.due("nor the other way", false, x.isShadowedBy(0, 1));
    }

    /** "whether they are for words alone does not matter for this." */
    static void promise20ForWordsAlone() {
        for (int i = 0; i < 4; i++) {
            ShorthandRules x = new ShorthandRules();
            x.addSnippet(i % 2 == 0);
            x.addSnippet(i / 2 == 0);
            Expanders.trigger(x, 0, "b");
            Expanders.trigger(x, 1, "abc");
            CHECKS.due("within a word", true, x.isShadowedBy(1, 0));
            x.clearTrigger(1);
            x.addToTrigger(1, 'b');
            CHECKS.due("the same", true, x.isShadowedBy(1, 0));
        }
    }

    /** "Throws IndexOutOfBoundsException if there is no such snippet, for either." */
    static void promise20NoSuchSnippetForEither() {
        for (int none : Setups.noSnippets(4)) {
            OF_BUSY.due("snippet " + none, INDEX, x -> x.isShadowedBy(none, 0));
            OF_BUSY.due("other " + none, INDEX, x -> x.isShadowedBy(0, none));
            OF_BUSY.due("both " + none, INDEX, x -> x.isShadowedBy(none, none));
            OF_BUSY.due("other " + none + " of one that is off", INDEX, x -> x.isShadowedBy(2, none));
        }
        CHECKS.due("the last one", true, withTriggers("a", "a").isShadowedBy(1, 0));
        CHECKS.due("the last one as the other one", true, withTriggers("ab", "a").isShadowedBy(0, 1));
    }

    // Promise 21: shadower.

    /** "the snippet with the lowest number by which a snippet is shadowed": of all 7 others, then of one less each. */
    static void promise21TheLowestOfAll() {
        ShorthandRules x = withTriggers("a", "b", "c", "d", "e", "f", "g", "abcdeg");
        for (int i = 0; i < 5; i++) {
            CHECKS.due("the lowest", i, x.shadower(7));
            x.setOn(i, false);
        }
        CHECKS.dueThrow("'g' is its end alone, and 'f' not in it", NONE, () -> x.shadower(7));
        CHECKS.due("one above itself", 7, withTriggers("ba", "", "", "", "", "", "", "b").shadower(0));
    }

    /** "Throws NoSuchElementException if there is none." */
    static void promise21ByNone() {
        OF_BUSY.due("no other one", NONE, x -> x.shadower(1));
        OF_BUSY.due("the other one is off", NONE, x -> x.shadower(0));
        OF_BUSY.due("off", NONE, x -> x.shadower(2));
        OF_BUSY.due("no trigger", NONE, x -> x.shadower(3));
        CHECKS.dueThrow("the only one", NONE, () -> withTriggers("aa").shadower(0));
        CHECKS.dueThrow("the lowest of the same ones", NONE, () -> withTriggers("a", "a").shadower(0));
    }

    static void promise21NoSuchSnippet() {
        for (int none : Setups.noSnippets(4)) {
            OF_BUSY.due("snippet " + none, INDEX, x -> x.shadower(none));
        }
        CHECKS.due("the last one", 0, withTriggers("a", "a").shadower(1));
        CHECKS.dueThrow("behind the last one", INDEX, () -> withTriggers("a", "a").shadower(2));
    }

    // Promise 22: clashes.

    static void promise22FromNoneToSeven() {
        CHECKS.due("no snippet", 0, new ShorthandRules().clashes());
        for (int count = 1; count <= 8; count++) {
            ShorthandRules x = new ShorthandRules();
            for (int i = 0; i < count; i++) {
                x.addSnippet(i % 2 == 0);
            }
            CHECKS.due("no triggers of " + count, 0, x.clashes());
            for (int i = 0; i < count; i++) {
                x.addToTrigger(i, 'a');
            }
            CHECKS.due("all but the first of " + count, count - 1, x.clashes());
            x.setOn(0, false);
            CHECKS.due("all but the first two of " + count, Math.max(0, count - 2), x.clashes());
            for (int i = 0; i < count; i++) {
                x.setOn(i, false);
            }
            CHECKS.due("all " + count + " off", 0, x.clashes());
        }
    }

    static void promise22EachIsCountedOnce() {
        CHECKS.due("by three others", 1, withTriggers("a", "b", "c", "abcd").clashes());
        CHECKS.due("one shadows three others", 3, withTriggers("a", "ab", "ac", "ad").clashes());
        CHECKS.due("the last one alone", 1, withTriggers("b", "c", "ca").clashes());
        CHECKS.due("the first one alone", 1, withTriggers("ca", "b", "c").clashes());
    }
}
