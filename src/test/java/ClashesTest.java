import java.util.NoSuchElementException;

/** Promises 20 to 22: clashes. */
public final class ClashesTest {
    private static final Class<IndexOutOfBoundsException> INDEX = IndexOutOfBoundsException.class;

    private static final Checks CHECKS = new Checks();

    public static void main(String[] args) {
        isShadowedBy();
        isShadowedByWords();
        shadower();
        clashes();
        CHECKS.end("ClashesTest");
    }

    private static ShorthandRules withTriggers(String... triggers) {
        ShorthandRules x = Expanders.with(triggers.length);
        for (int i = 0; i < triggers.length; i++) {
            Expanders.trigger(x, i, triggers[i]);
        }
        return x;
    }

    private static boolean isShadowed(String trigger, String other) {
        return withTriggers(trigger, other).isShadowedBy(0, 1);
    }

    private static void isShadowedBy() {
        CHECKS.promise(20);
        CHECKS.due("a beginning", true, isShadowed("abc", "a"));
        CHECKS.due("a longer beginning", true, isShadowed("abc", "ab"));
        CHECKS.due("an end of a beginning", true, isShadowed("abc", "b"));
        CHECKS.due("an end of the longest beginning", true, isShadowed("abcdef", "cde"));
        CHECKS.due("the longest beginning", true, isShadowed("abcdef", "abcde"));
        CHECKS.due("an end of itself", false, isShadowed("abc", "bc"));
        CHECKS.due("an end, and an end of a beginning", true, isShadowed("bcbc", "bc"));
        CHECKS.due("characters with others between", false, isShadowed("abc", "ac"));
        CHECKS.due("a longer one", false, isShadowed("ab", "abc"));
        CHECKS.due("the same with the higher number", false, isShadowed("ab", "ab"));
        CHECKS.due("repeated", true, isShadowed("aaa", "aa"));
        CHECKS.due("no trigger of its own", false, isShadowed("", "a"));
        CHECKS.due("no trigger of the other one", false, isShadowed("a", ""));
        CHECKS.due("no triggers", false, isShadowed("", ""));
        ShorthandRules x = withTriggers("ab", "ab", "ab", "aba");
        CHECKS.due("the same with the lower number", true, x.isShadowedBy(1, 0));
        CHECKS.due("the same with the higher number", false, x.isShadowedBy(1, 2));
        CHECKS.due("not by itself", false, x.isShadowedBy(1, 1));
        CHECKS.due("of a lower one", true, x.isShadowedBy(3, 2));
        x.setOn(3, false);
        CHECKS.due("off itself", false, x.isShadowedBy(3, 2));
        x.setOn(3, true);
        x.setOn(2, false);
        CHECKS.due("the other one off", false, x.isShadowedBy(3, 2));
        ShorthandRules y = withTriggers("", "", "a");
        CHECKS.due("lower without a trigger", false, y.isShadowedBy(1, 0));
        CHECKS.dueThrow("no such snippet", INDEX, () -> y.isShadowedBy(3, 0));
        CHECKS.dueThrow("no such other one", INDEX, () -> y.isShadowedBy(0, 3));
        CHECKS.dueThrow("snippet -1", INDEX, () -> y.isShadowedBy(-1, 0));
        CHECKS.dueThrow("other one -1", INDEX, () -> y.isShadowedBy(0, -1));
        CHECKS.dueThrow("without snippets", INDEX, () -> new ShorthandRules().isShadowedBy(0, 0));
    }

    private static void isShadowedByWords() {
        CHECKS.promise(20);
        ShorthandRules x = new ShorthandRules();
        x.addSnippet(true);
        x.addSnippet(false);
        x.addSnippet(true);
        Expanders.trigger(x, 0, "a");
        Expanders.trigger(x, 1, "a");
        Expanders.trigger(x, 2, "ba;");
        CHECKS.due("by one for words", true, x.isShadowedBy(1, 0));
        CHECKS.due("by one for words within a word", true, x.isShadowedBy(2, 0));
        CHECKS.due("one for words", true, x.isShadowedBy(2, 1));
    }

    private static void shadower() {
        CHECKS.promise(21);
        ShorthandRules x = withTriggers("zz", "abc", "b", "a", "abc");
        CHECKS.due("the lowest of two", 2, x.shadower(1));
        CHECKS.due("the same with the lower number", 1, x.shadower(4));
        CHECKS.dueThrow("by none", NoSuchElementException.class, () -> x.shadower(0));
        CHECKS.dueThrow("by none, the shorter one", NoSuchElementException.class, () -> x.shadower(3));
        CHECKS.dueThrow("no such snippet", INDEX, () -> x.shadower(5));
        CHECKS.dueThrow("snippet -1", INDEX, () -> x.shadower(-1));
        CHECKS.dueThrow("without snippets", INDEX, () -> new ShorthandRules().shadower(0));
        x.setOn(2, false);
        CHECKS.due("the other one", 3, x.shadower(1));
        x.clearTrigger(3);
        CHECKS.dueThrow("no more", NoSuchElementException.class, () -> x.shadower(1));
    }

    private static void clashes() {
        CHECKS.promise(22);
        CHECKS.due("without snippets", 0, new ShorthandRules().clashes());
        CHECKS.due("none", 0, withTriggers("a", "b", "").clashes());
        CHECKS.due("each is counted once", 1, withTriggers("abc", "a", "b").clashes());
        CHECKS.due("two of three that are the same", 2, withTriggers("a", "a", "a").clashes());
        CHECKS.due("seven of eight", 7,
                withTriggers("a", "aa", "aaa", "aaaa", "aaaaa", "aaaaaa", "aaaaaa", "ab").clashes());
        ShorthandRules x = withTriggers("a", "ab");
        x.setOn(0, false);
        CHECKS.due("off", 0, x.clashes());
    }
}
