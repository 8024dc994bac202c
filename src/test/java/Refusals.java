import java.util.ArrayList;
import java.util.List;

/**
 * "A method that throws an exception changes nothing": a refused call is made on one of two objects
 * that were made by the same calls, and no later calls must tell them apart. Each row of later calls
 * gets two objects of its own, so that all stay below the 512 calls for which answers are promised.
 */
final class Refusals {
    interface Maker {
        ShorthandRules made();
    }

    interface Call {
        Object on(ShorthandRules x);
    }

    private static final int MOST_SNIPPETS = 8;

    private final Checks checks;
    private final Maker maker;
    private final List<Call> laterCalls = new ArrayList<>();

    /** The keys are typed to tell the triggers, and so should hold those that the maker makes. */
    Refusals(Checks checks, String keys, Maker maker) {
        this.checks = checks;
        this.maker = maker;
        laterCalls.add(Refusals::textAndSums);
        laterCalls.add(Refusals::undone);
        laterCalls.add(Refusals::relations);
        laterCalls.add(Refusals::switches);
        laterCalls.add(Refusals::roomInTriggers);
        laterCalls.add(Refusals::roomInBodies);
        laterCalls.add(x -> typedAnew(x, keys));
        for (int i = 0; i < MOST_SNIPPETS; i++) {
            int snippet = i;
            laterCalls.add(x -> answer(() -> Expanders.given(x, snippet)));
            laterCalls.add(x -> givenByTheOthers(x, snippet));
        }
    }

    void due(String what, Class<? extends Exception> want, Call refused) {
        for (int i = 0; i < laterCalls.size(); i++) {
            ShorthandRules spared = maker.made();
            ShorthandRules called = maker.made();
            checks.dueThrow(what, want, () -> refused.on(called));
            Object unchanged = laterCalls.get(i).on(spared);
            checks.due(what + ", then row " + i + " of later calls", unchanged, laterCalls.get(i).on(called));
        }
    }

    private static Object answer(Checks.Call call) {
        return Checks.answerOf(call);
    }

    private static Object textAndSums(ShorthandRules x) {
        return List.of(Expanders.text(x), x.matching(), x.matchingByLooking(), x.saved(),
                answer(() -> x.keptShare()), x.clashes());
    }

    private static Object undone(ShorthandRules x) {
        return List.of(answer(() -> x.undo()), Expanders.text(x), x.saved(), answer(() -> x.keptShare()));
    }

    private static Object relations(ShorthandRules x) {
        List<Object> told = new ArrayList<>();
        for (int i = 0; i < MOST_SNIPPETS; i++) {
            int snippet = i;
            told.add(answer(() -> x.depth(snippet)));
            told.add(answer(() -> x.shadower(snippet)));
            for (int j = 0; j < MOST_SNIPPETS; j++) {
                int other = j;
                told.add(answer(() -> x.comesTo(snippet, other)));
                told.add(answer(() -> x.isShadowedBy(snippet, other)));
            }
        }
        return told;
    }

    /** Whether another one can be added tells how many there are. */
    private static Object switches(ShorthandRules x) {
        List<Object> told = new ArrayList<>();
        for (int i = 0; i < MOST_SNIPPETS; i++) {
            int snippet = i;
            told.add(answer(() -> x.setOn(snippet, true)));
            told.add(answer(() -> x.choose(snippet, true)));
            told.add(answer(() -> x.clearTrigger(snippet)));
            told.add(answer(() -> x.clearBody(snippet)));
        }
        told.add(x.setToday(100));
        told.add(answer(() -> x.addSnippet(false)));
        return told;
    }

    private static Object roomInTriggers(ShorthandRules x) {
        List<Object> told = new ArrayList<>();
        for (int i = 0; i < MOST_SNIPPETS; i++) {
            int snippet = i;
            for (int j = 0; j < 7; j++) {
                told.add(answer(() -> x.addToTrigger(snippet, 'q')));
            }
        }
        return told;
    }

    private static Object roomInBodies(ShorthandRules x) {
        List<Object> told = new ArrayList<>();
        for (int i = MOST_SNIPPETS - 1; i >= 0; i--) {
            int snippet = i;
            for (int j = 0; j < 13; j++) {
                told.add(answer(() -> x.putStop(snippet)));
            }
        }
        return told;
    }

    private static Object typedAnew(ShorthandRules x, String keys) {
        List<Object> told = new ArrayList<>();
        while (x.caret() > 0) {
            told.add(x.erase());
        }
        for (char character : keys.toCharArray()) {
            told.add(answer(() -> x.key(character)));
        }
        told.add(Expanders.text(x));
        return told;
    }

    private static Object givenByTheOthers(ShorthandRules x, int snippet) {
        Object before = answer(() -> x.choose(snippet, false));
        boolean other = Boolean.FALSE.equals(before);
        return List.of(before, answer(() -> x.choose(snippet, other)), answer(() -> Expanders.given(x, snippet)));
    }
}
