import java.util.NoSuchElementException;

/** Promises 14 to 19: what snippets give. */
public final class GivesTest {
    private static final Class<IndexOutOfBoundsException> INDEX = IndexOutOfBoundsException.class;
    private static final Class<NoSuchElementException> NONE = NoSuchElementException.class;

    private static final Checks CHECKS = new Checks();

    public static void main(String[] args) {
        lengthOf();
        lengthAtTheLimit();
        characterOf();
        numbersOfDays();
        weekdays();
        months();
        stopsOf();
        stopOf();
        comesTo();
        depth();
        depthOfEight();
        CHECKS.end("GivesTest");
    }

    private static void lengthOf() {
        CHECKS.promise(14);
        ShorthandRules x = Expanders.with(3);
        CHECKS.due("without parts", 0, x.lengthOf(0));
        Expanders.body(x, 0, "a|b");
        CHECKS.due("a stop has no length", 2, x.lengthOf(0));
        x.putSnippet(1, 0);
        x.putCharacter(1, ' ');
        x.putChoice(1, 0, 2);
        CHECKS.due("with snippets in it", 5, x.lengthOf(1));
        x.choose(1, true);
        CHECKS.due("with the second ones", 3, x.lengthOf(1));
        x.putDate(2, 0, 'n');
        CHECKS.due("the day 99", 5, x.lengthOf(1));
        x.setToday(100);
        CHECKS.due("the day 100", 6, x.lengthOf(1));
        CHECKS.dueThrow("no such snippet", INDEX, () -> x.lengthOf(3));
        CHECKS.dueThrow("snippet -1", INDEX, () -> x.lengthOf(-1));
    }

    private static void lengthAtTheLimit() {
        CHECKS.promise(14);
        ShorthandRules x = Expanders.with(3);
        for (int i = 0; i < 12; i++) {
            x.putDate(0, 99, 'n');
        }
        x.setToday(9999);
        CHECKS.due("12 dates of 5 characters", 60, x.lengthOf(0));
        for (int i = 0; i < 3; i++) {
            x.putSnippet(1, 0);
        }
        for (int i = 0; i < 3; i++) {
            x.putDate(1, 99, 'n');
        }
        x.putCharacter(1, 'a');
        x.putCharacter(1, 'b');
        CHECKS.due("the greatest one of all", 197, x.lengthOf(1));
        CHECKS.due("its last character", 'b', x.characterOf(1, 196));
        CHECKS.dueThrow("behind it", NONE, () -> x.characterOf(1, 197));
    }

    private static void characterOf() {
        CHECKS.promise(15);
        ShorthandRules x = Expanders.with(2);
        Expanders.body(x, 0, "a|b");
        CHECKS.due("the first", 'a', x.characterOf(0, 0));
        CHECKS.due("the last", 'b', x.characterOf(0, 1));
        CHECKS.dueThrow("behind the last", NONE, () -> x.characterOf(0, 2));
        CHECKS.dueThrow("index -1", NONE, () -> x.characterOf(0, -1));
        CHECKS.dueThrow("the greatest int", NONE, () -> x.characterOf(0, Integer.MAX_VALUE));
        CHECKS.dueThrow("of nothing", NONE, () -> x.characterOf(1, 0));
        CHECKS.dueThrow("no such snippet", INDEX, () -> x.characterOf(2, 0));
        CHECKS.dueThrow("no such snippet and character", INDEX, () -> x.characterOf(-1, -1));
        x.putCharacter(1, '.');
        x.putSnippet(1, 0);
        x.putCharacter(1, ';');
        CHECKS.due("in their order", ".a|b;", Expanders.given(x, 1));
    }

    private static String dateGiven(int today, int days, char form) {
        ShorthandRules x = Expanders.with(1);
        x.setToday(today);
        x.putDate(0, days, form);
        return Expanders.given(x, 0);
    }

    private static void numbersOfDays() {
        CHECKS.promise(15);
        CHECKS.due("the day 0", "0", dateGiven(99, -99, 'n'));
        CHECKS.due("the day 9", "9", dateGiven(99, -90, 'n'));
        CHECKS.due("the day 10", "10", dateGiven(99, -89, 'n'));
        CHECKS.due("the day 100", "100", dateGiven(100, 0, 'n'));
        CHECKS.due("the day 1000", "1000", dateGiven(1001, -1, 'n'));
        CHECKS.due("the day 9999", "9999", dateGiven(9999, 0, 'n'));
        CHECKS.due("the day 10000", "10000", dateGiven(9999, 1, 'n'));
        CHECKS.due("the day 10098", "10098", dateGiven(9999, 99, 'n'));
    }

    private static void weekdays() {
        CHECKS.promise(15);
        String[] names = {"mo", "tu", "we", "th", "fr", "sa", "su"};
        for (int day = 0; day < 15; day++) {
            CHECKS.due("the weekday of " + day, names[day % 7], dateGiven(99, day - 99, 'w'));
        }
        CHECKS.due("the weekday of 10098", names[10098 % 7], dateGiven(9999, 99, 'w'));
    }

    private static void months() {
        CHECKS.promise(15);
        CHECKS.due("the day 0", "1.1", dateGiven(99, -99, 'm'));
        CHECKS.due("the day 29", "1.30", dateGiven(99, -70, 'm'));
        CHECKS.due("the day 30", "2.1", dateGiven(99, -69, 'm'));
        CHECKS.due("the day 299", "10.30", dateGiven(299, 0, 'm'));
        CHECKS.due("the day 359", "12.30", dateGiven(359, 0, 'm'));
        CHECKS.due("the day 360", "1.1", dateGiven(359, 1, 'm'));
        CHECKS.due("the day 719", "12.30", dateGiven(720, -1, 'm'));
        CHECKS.due("the day 10098", "1.19", dateGiven(9999, 99, 'm'));
    }

    private static void stopsOf() {
        CHECKS.promise(16);
        ShorthandRules x = Expanders.with(3);
        CHECKS.due("without parts", 0, x.stopsOf(0));
        Expanders.body(x, 0, "|a||");
        CHECKS.due("three", 3, x.stopsOf(0));
        x.putChoice(1, 0, 2);
        x.putSnippet(1, 0);
        x.putStop(1);
        CHECKS.due("with those of snippets in it", 7, x.stopsOf(1));
        x.choose(1, true);
        CHECKS.due("with the second ones", 4, x.stopsOf(1));
        CHECKS.dueThrow("no such snippet", INDEX, () -> x.stopsOf(3));
        CHECKS.dueThrow("snippet -1", INDEX, () -> x.stopsOf(-1));
    }

    private static void stopOf() {
        CHECKS.promise(17);
        ShorthandRules x = Expanders.with(3);
        Expanders.body(x, 0, "|ab||c");
        CHECKS.due("the first", 0, x.stopOf(0, 0));
        CHECKS.due("the second", 2, x.stopOf(0, 1));
        CHECKS.due("the third, at the same place", 2, x.stopOf(0, 2));
        CHECKS.dueThrow("behind the last", NONE, () -> x.stopOf(0, 3));
        CHECKS.dueThrow("index -1", NONE, () -> x.stopOf(0, -1));
        CHECKS.dueThrow("of none", NONE, () -> x.stopOf(1, 0));
        CHECKS.dueThrow("no such snippet", INDEX, () -> x.stopOf(3, 0));
        CHECKS.dueThrow("no such snippet and stop", INDEX, () -> x.stopOf(-1, -1));
        x.putDate(1, 0, 'n');
        x.putSnippet(1, 0);
        x.putStop(1);
        CHECKS.due("behind a date and a snippet", "99|ab||c|", Expanders.given(x, 1));
        x.setToday(1000);
        CHECKS.due("moved by today", 4, x.stopOf(1, 0));
        CHECKS.due("the last one, moved by today", 7, x.stopOf(1, 3));
    }

    private static void comesTo() {
        CHECKS.promise(18);
        ShorthandRules x = Expanders.with(6);
        x.putSnippet(1, 0);
        x.putChoice(2, 4, 1);
        x.putSnippet(3, 2);
        CHECKS.due("a part", true, x.comesTo(1, 0));
        CHECKS.due("not back", false, x.comesTo(0, 1));
        CHECKS.due("a choice's first one", true, x.comesTo(2, 4));
        CHECKS.due("a choice's second one", true, x.comesTo(2, 1));
        CHECKS.due("over a choice's second one", true, x.comesTo(2, 0));
        CHECKS.due("over two", true, x.comesTo(3, 0));
        CHECKS.due("over one", true, x.comesTo(3, 4));
        CHECKS.due("not to itself", false, x.comesTo(3, 3));
        CHECKS.due("not to one without parts", false, x.comesTo(3, 5));
        CHECKS.dueThrow("no such snippet", INDEX, () -> x.comesTo(6, 0));
        CHECKS.dueThrow("no such other one", INDEX, () -> x.comesTo(0, 6));
        CHECKS.dueThrow("snippet -1", INDEX, () -> x.comesTo(-1, 0));
        CHECKS.dueThrow("other one -1", INDEX, () -> x.comesTo(0, -1));
        x.clearBody(1);
        CHECKS.due("no more", false, x.comesTo(3, 0));
        CHECKS.due("still", true, x.comesTo(3, 1));
        x.putSnippet(0, 3);
        CHECKS.due("to a higher one", true, x.comesTo(0, 4));
    }

    private static void depth() {
        CHECKS.promise(19);
        ShorthandRules x = Expanders.with(5);
        CHECKS.due("itself", 1, x.depth(0));
        Expanders.body(x, 0, "a|");
        CHECKS.due("itself with characters", 1, x.depth(0));
        x.putSnippet(1, 0);
        x.putSnippet(1, 0);
        CHECKS.due("two", 2, x.depth(1));
        x.putSnippet(2, 1);
        x.putSnippet(2, 0);
        CHECKS.due("three", 3, x.depth(2));
        x.putChoice(3, 0, 2);
        CHECKS.due("over the second one, which it can give", 4, x.depth(3));
        x.choose(3, true);
        CHECKS.due("the same by the second ones", 4, x.depth(3));
        x.putChoice(4, 2, 0);
        x.choose(4, true);
        CHECKS.due("over the first one, which it can give", 4, x.depth(4));
        x.clearBody(1);
        CHECKS.due("less now", 3, x.depth(3));
        CHECKS.dueThrow("no such snippet", INDEX, () -> x.depth(5));
        CHECKS.dueThrow("snippet -1", INDEX, () -> x.depth(-1));
    }

    private static void depthOfEight() {
        CHECKS.promise(19);
        ShorthandRules x = Expanders.with(8);
        for (int i = 0; i < 7; i++) {
            x.putSnippet(i, i + 1);
        }
        CHECKS.due("all eight", 8, x.depth(0));
        x.putCharacter(7, 'q');
        CHECKS.due("what eight give", "q", Expanders.given(x, 0));
        x.clearBody(6);
        CHECKS.due("seven", 7, x.depth(0));
        ShorthandRules y = Expanders.with(8);
        for (int i = 7; i > 0; i--) {
            y.putSnippet(i, i - 1);
        }
        CHECKS.due("all eight, the other way", 8, y.depth(7));
        CHECKS.due("the size counts through all eight", true, y.comesTo(7, 0));
    }
}
