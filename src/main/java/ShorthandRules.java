import java.util.ArrayList;
import java.util.NoSuchElementException;

/** A text expander: a typed trigger is replaced by what its snippet gives. */
public final class ShorthandRules {
    private static final int MOST_SNIPPETS = 8;
    private static final int MOST_IN_TRIGGER = 6;
    private static final int MOST_PARTS = 12;
    private static final int MOST_SIZE = 200;
    private static final int MOST_IN_TEXT = 80;
    private static final int MOST_NODES = 1 + MOST_SNIPPETS * MOST_IN_TRIGGER;
    private static final int DATE_SIZE = 5;
    private static final int MOST_DAYS = 99;
    private static final int FIRST_TODAY = 99;
    private static final int LAST_TODAY = 9999;
    private static final int NO_SNIPPET = -1;

    private final ArrayList<Snippet> snippets = new ArrayList<Snippet>();
    private final TriggerTree tree = new TriggerTree();
    private final Gift gift = new Gift();
    private final Text text = new Text();
    private final Text textAheadOfExpansion = new Text();
    private int today = FIRST_TODAY;
    private boolean canUndo = false;
    private int lastGain = 0;
    private long gain = 0;
    private int expansions = 0;
    private int undone = 0;

    public ShorthandRules() {
    }

    // Snippets.

    public int addSnippet(boolean isForWords) throws IllegalStateException {
        if (snippets.size() >= MOST_SNIPPETS) {
            throw new IllegalStateException("there are 8 snippets");
        }
        snippets.add(new Snippet(isForWords));
        return snippets.size() - 1;
    }

    public int addToTrigger(int snippet, char character)
            throws IndexOutOfBoundsException, IllegalArgumentException, IllegalStateException {
        Snippet changed = snippetAt(snippet);
        requireTypeable(character);
        if (changed.trigger.isFull()) {
            throw new IllegalStateException("the trigger has 6 characters");
        }
        changed.trigger.add(character);
        growTree();
        return changed.trigger.count();
    }

    public int clearTrigger(int snippet) throws IndexOutOfBoundsException {
        Snippet changed = snippetAt(snippet);
        int taken = changed.trigger.count();
        changed.trigger.empty();
        growTree();
        return taken;
    }

    public boolean setOn(int snippet, boolean isOn) throws IndexOutOfBoundsException {
        Snippet changed = snippetAt(snippet);
        boolean wasOn = changed.isOn;
        changed.isOn = isOn;
        return wasOn;
    }

    public int putCharacter(int snippet, char character)
            throws IndexOutOfBoundsException, IllegalArgumentException, IllegalStateException {
        Snippet changed = snippetAt(snippet);
        requireTypeable(character);
        return addPart(changed, new Part(Kind.CHARACTER, character, 0));
    }

    public int putSnippet(int snippet, int other)
            throws IndexOutOfBoundsException, UnsupportedOperationException, IllegalStateException {
        return addPart(snippetAt(snippet), innerPart(snippet, other, other));
    }

    public int putChoice(int snippet, int first, int second)
            throws IndexOutOfBoundsException, UnsupportedOperationException, IllegalStateException {
        return addPart(snippetAt(snippet), innerPart(snippet, first, second));
    }

    public int putDate(int snippet, int days, char form)
            throws IndexOutOfBoundsException, IllegalArgumentException, IllegalStateException {
        Snippet changed = snippetAt(snippet);
        if (days < -MOST_DAYS || days > MOST_DAYS) {
            throw new IllegalArgumentException("the days are not between -99 and 99");
        }
        if (form != 'n' && form != 'w' && form != 'm') {
            throw new IllegalArgumentException("there is no such form");
        }
        return addPart(changed, new Part(Kind.DATE, days, form));
    }

    public int putStop(int snippet) throws IndexOutOfBoundsException, IllegalStateException {
        return addPart(snippetAt(snippet), new Part(Kind.STOP, 0, 0));
    }

    public int clearBody(int snippet) throws IndexOutOfBoundsException {
        Snippet changed = snippetAt(snippet);
        int taken = changed.parts.size();
        changed.parts.clear();
        measureAll();
        return taken;
    }

    public boolean choose(int snippet, boolean isSecond) throws IndexOutOfBoundsException {
        Snippet changed = snippetAt(snippet);
        boolean wasSecond = changed.isSecondChosen;
        changed.isSecondChosen = isSecond;
        return wasSecond;
    }

    public int setToday(int day) throws IllegalArgumentException {
        if (day < FIRST_TODAY || day > LAST_TODAY) {
            throw new IllegalArgumentException("the day is not between 99 and 9999");
        }
        int dayBefore = today;
        today = day;
        return dayBefore;
    }

    // What snippets give.

    public int lengthOf(int snippet) throws IndexOutOfBoundsException {
        gather(snippetAt(snippet));
        return gift.characters.count();
    }

    public char characterOf(int snippet, int index)
            throws IndexOutOfBoundsException, NoSuchElementException {
        gather(snippetAt(snippet));
        if (!gift.characters.has(index)) {
            throw new NoSuchElementException("there is no such character");
        }
        return (char) gift.characters.at(index);
    }

    public int stopsOf(int snippet) throws IndexOutOfBoundsException {
        gather(snippetAt(snippet));
        return gift.stops.count();
    }

    public int stopOf(int snippet, int index)
            throws IndexOutOfBoundsException, NoSuchElementException {
        gather(snippetAt(snippet));
        if (!gift.stops.has(index)) {
            throw new NoSuchElementException("there is no such stop");
        }
        return gift.stops.at(index);
    }

    public boolean comesTo(int snippet, int other) throws IndexOutOfBoundsException {
        Snippet outer = snippetAt(snippet);
        requireSnippet(other);
        return outer.reaches(other);
    }

    public int depth(int snippet) throws IndexOutOfBoundsException {
        return snippetAt(snippet).height;
    }

    // Clashes.

    public boolean isShadowedBy(int snippet, int other) throws IndexOutOfBoundsException {
        return isInShadow(snippet, other);
    }

    public int shadower(int snippet) throws IndexOutOfBoundsException, NoSuchElementException {
        requireSnippet(snippet);
        int other = lowestShadower(snippet);
        if (other == NO_SNIPPET) {
            throw new NoSuchElementException("the snippet is not shadowed");
        }
        return other;
    }

    public int clashes() {
        int shadowed = 0;
        for (int number = 0; number < snippets.size(); number++) {
            if (lowestShadower(number) != NO_SNIPPET) {
                shadowed++;
            }
        }
        return shadowed;
    }

    // The text.

    public int key(char character) throws IllegalArgumentException, IllegalStateException {
        requireTypeable(character);
        if (text.characters.isFull()) {
            throw new IllegalStateException("the text has 80 characters");
        }
        canUndo = false;
        text.type(character);
        int number = findInTree();
        if (number == NO_SNIPPET) {
            return NO_SNIPPET;
        }
        return expand(snippetAt(number)) ? number : NO_SNIPPET;
    }

    public char erase() throws NoSuchElementException {
        if (text.caret <= 0) {
            throw new NoSuchElementException("no character is ahead of the caret");
        }
        canUndo = false;
        return (char) text.takeOut();
    }

    public int moveCaret(int by) throws IllegalArgumentException {
        // Compared by what is left on each side, as the sum could overflow.
        if (by < -text.caret || by > text.characters.count() - text.caret) {
            throw new IllegalArgumentException("the caret would be outside the text");
        }
        canUndo = false;
        text.caret += by;
        return text.caret;
    }

    public int nextStop() throws NoSuchElementException {
        if (!text.stops.has(0)) {
            throw new NoSuchElementException("there is no stop");
        }
        canUndo = false;
        text.caret = text.stops.removeAt(0);
        return text.caret;
    }

    public int undo() throws IllegalStateException {
        if (!canUndo) {
            throw new IllegalStateException("no expansion can be undone");
        }
        canUndo = false;
        text.copyFrom(textAheadOfExpansion);
        gain -= lastGain;
        undone++;
        return text.characters.count();
    }

    public int length() {
        return text.characters.count();
    }

    public char characterAt(int index) throws IndexOutOfBoundsException {
        if (!text.characters.has(index)) {
            throw new IndexOutOfBoundsException("there is no such character");
        }
        return (char) text.characters.at(index);
    }

    public int caret() {
        return text.caret;
    }

    public int stops() {
        return text.stops.count();
    }

    public int stopAt(int index) throws IndexOutOfBoundsException {
        if (!text.stops.has(index)) {
            throw new IndexOutOfBoundsException("there is no such stop");
        }
        return text.stops.at(index);
    }

    public int matching() {
        return findInTree();
    }

    public int matchingByLooking() {
        return findByLooking();
    }

    public long saved() {
        return gain;
    }

    public float keptShare() throws NoSuchElementException {
        if (expansions <= 0) {
            throw new NoSuchElementException("there was no expansion");
        }
        return (float) (expansions - undone) / (float) expansions;
    }

    // What the calls have in common.

    private void requireSnippet(int number) {
        if (number < 0 || number >= snippets.size()) {
            throw new IndexOutOfBoundsException("there is no such snippet");
        }
    }

    private Snippet snippetAt(int number) {
        requireSnippet(number);
        return snippets.get(number);
    }

    private static void requireTypeable(char character) {
        boolean isSign = character == ' ' || character == ';' || character == '.';
        if (!isSign && !isLetterOrDigit(character)) {
            throw new IllegalArgumentException("the character cannot be typed");
        }
    }

    private static boolean isLetterOrDigit(int character) {
        return character >= 'a' && character <= 'z' || character >= '0' && character <= '9';
    }

    // Bodies.

    /** Makes a choice; a snippet as a part is one too, of twice the same, as nothing tells them apart. */
    private Part innerPart(int snippet, int first, int second) {
        Snippet firstInner = snippetAt(first);
        Snippet secondInner = snippetAt(second);
        if (first == snippet || firstInner.reaches(snippet)
                || second == snippet || secondInner.reaches(snippet)) {
            throw new UnsupportedOperationException("the snippet would come to itself");
        }
        return new Part(Kind.CHOICE, first, second);
    }

    private int addPart(Snippet changed, Part part) {
        if (changed.parts.size() >= MOST_PARTS) {
            throw new IllegalStateException("the body has 12 parts");
        }
        changed.parts.add(part);
        measureAll();
        if (isSomeTooLarge()) {
            changed.dropLastPart();
            measureAll();
            throw new IllegalStateException("the size of some snippet would be greater than 200");
        }
        return changed.parts.size();
    }

    private boolean isSomeTooLarge() {
        for (int number = 0; number < snippets.size(); number++) {
            if (snippetAt(number).size > MOST_SIZE) {
                return true;
            }
        }
        return false;
    }

    /** A round sets right at least one more level of snippets in snippets, and there are 8 at most. */
    private void measureAll() {
        for (int round = 0; round < MOST_SNIPPETS; round++) {
            for (int number = 0; number < snippets.size(); number++) {
                measure(snippetAt(number));
            }
        }
    }

    private void measure(Snippet measured) {
        measured.size = 0;
        measured.height = 1;
        measured.reached = 0;
        for (int i = 0; i < measured.parts.size(); i++) {
            Part part = measured.parts.get(i);
            if (part.kind == Kind.CHOICE) {
                measureInner(measured, part.first, part.second);
            } else {
                measured.grow(part.kind == Kind.DATE ? DATE_SIZE : 1);
            }
        }
    }

    private void measureInner(Snippet measured, int first, int second) {
        Snippet firstInner = snippetAt(first);
        Snippet secondInner = snippetAt(second);
        measured.grow(1 + Math.max(firstInner.size, secondInner.size));
        int innerHeight = Math.max(firstInner.height, secondInner.height);
        measured.height = Math.max(measured.height, 1 + innerHeight);
        measured.reached |= firstInner.reached | secondInner.reached | 1 << first | 1 << second;
    }

    // What a snippet gives.

    private void gather(Snippet giver) {
        gift.empty();
        give(giver, 1);
    }

    private void give(Snippet giver, int level) {
        if (level > MOST_SNIPPETS) {
            return;
        }
        for (int i = 0; i < giver.parts.size(); i++) {
            givePart(giver, giver.parts.get(i), level);
        }
    }

    private void givePart(Snippet giver, Part part, int level) {
        if (part.kind == Kind.CHARACTER) {
            gift.characters.add(part.first);
        } else if (part.kind == Kind.STOP) {
            gift.stops.add(gift.characters.count());
        } else if (part.kind == Kind.DATE) {
            gift.addDate(today + part.first, part.second);
        } else {
            give(snippetAt(giver.isSecondChosen ? part.second : part.first), level + 1);
        }
    }

    // Clashes.

    private boolean isInShadow(int number, int otherNumber) {
        Snippet snippet = snippetAt(number);
        Snippet other = snippetAt(otherNumber);
        if (!snippet.isOn || !other.isOn || snippet.trigger.isEmpty() || other.trigger.isEmpty()) {
            return false;
        }
        return otherNumber < number && snippet.trigger.isSameAs(other.trigger)
                || isTypedEarlier(other.trigger, snippet.trigger);
    }

    private static boolean isTypedEarlier(Row trigger, Row longer) {
        for (int typed = 1; typed < longer.count(); typed++) {
            if (longer.endsWith(trigger, typed)) {
                return true;
            }
        }
        return false;
    }

    private int lowestShadower(int number) {
        for (int other = 0; other < snippets.size(); other++) {
            if (isInShadow(number, other)) {
                return other;
            }
        }
        return NO_SNIPPET;
    }

    // Finding the snippet to expand.

    private void growTree() {
        tree.empty();
        for (int number = 0; number < snippets.size(); number++) {
            Row trigger = snippetAt(number).trigger;
            if (!trigger.isEmpty()) {
                tree.add(trigger, number);
            }
        }
    }

    /** The tree is gone down as the text is gone back, so the deepest ready trigger is the longest. */
    private int findInTree() {
        int found = NO_SNIPPET;
        int node = TriggerTree.ROOT;
        for (int back = 1; back <= MOST_IN_TRIGGER && back <= text.caret; back++) {
            int start = text.caret - back;
            node = tree.childOf(node, text.characters.at(start));
            if (node == TriggerTree.NO_NODE) {
                return found;
            }
            int ready = lowestReady(tree.endingsAt(node), start);
            found = ready == NO_SNIPPET ? found : ready;
        }
        return found;
    }

    private int lowestReady(int numbers, int triggerStart) {
        for (int number = 0; number < snippets.size(); number++) {
            if ((numbers >> number & 1) == 1 && isReady(snippetAt(number), triggerStart)) {
                return number;
            }
        }
        return NO_SNIPPET;
    }

    private int findByLooking() {
        int found = NO_SNIPPET;
        int longest = 0;
        for (int number = 0; number < snippets.size(); number++) {
            Snippet snippet = snippetAt(number);
            int count = snippet.trigger.count();
            if (count > longest && text.characters.endsWith(snippet.trigger, text.caret)
                    && isReady(snippet, text.caret - count)) {
                found = number;
                longest = count;
            }
        }
        return found;
    }

    private boolean isReady(Snippet snippet, int triggerStart) {
        return snippet.isOn && (!snippet.isForWords || isWordStart(triggerStart));
    }

    private boolean isWordStart(int place) {
        return place <= 0 || !isLetterOrDigit(text.characters.at(place - 1));
    }

    /** Expands a snippet whose trigger is ahead of the caret; answers false if there is no room. */
    private boolean expand(Snippet snippet) {
        gather(snippet);
        int triggerLength = snippet.trigger.count();
        int longer = gift.characters.count() - triggerLength;
        if (text.characters.count() + longer > MOST_IN_TEXT) {
            return false;
        }
        textAheadOfExpansion.copyFrom(text);
        text.replace(triggerLength, gift);
        canUndo = true;
        expansions++;
        lastGain = longer;
        gain += longer;
        return true;
    }

    private enum Kind { CHARACTER, CHOICE, DATE, STOP }

    /** Both numbers are, by kind: a character; both snippets of a choice; the days and the form. */
    private static final class Part {
        private final Kind kind;
        private final int first;
        private final int second;

        Part(Kind kind, int first, int second) {
            this.kind = kind;
            this.first = first;
            this.second = second;
        }
    }

    private static final class Snippet {
        private final boolean isForWords;
        private final Row trigger = new Row(MOST_IN_TRIGGER);
        private final ArrayList<Part> parts = new ArrayList<Part>();
        private boolean isOn = true;
        private boolean isSecondChosen = false;
        private int size = 0;
        private int height = 1;
        private int reached = 0; // the bit 1 << n is set if it comes to the snippet n

        Snippet(boolean isForWords) {
            this.isForWords = isForWords;
        }

        boolean reaches(int number) {
            return (reached >> number & 1) == 1;
        }

        void dropLastPart() {
            if (!parts.isEmpty()) {
                parts.remove(parts.size() - 1);
            }
        }

        /** What is above the greatest size is told apart no further, so that no sum overflows. */
        void grow(int by) {
            size = Math.min(size + by, MOST_SIZE + 1);
        }
    }

    /** What a snippet gives. */
    private static final class Gift {
        private static final String WEEKDAYS = "motuwethfrsasu";
        private static final int DAYS_OF_WEEK = 7;
        private static final int DAYS_OF_MONTH = 30;
        private static final int MONTHS = 12;
        private static final int GREATEST_UNIT = 10000;

        private final Row characters = new Row(MOST_SIZE);
        private final Row stops = new Row(MOST_SIZE);

        void empty() {
            characters.empty();
            stops.empty();
        }

        void addDate(int day, int form) {
            if (form == 'n') {
                addNumber(day);
            } else if (form == 'w') {
                addWeekday(Math.floorMod(day, DAYS_OF_WEEK));
            } else {
                addNumber(day / DAYS_OF_MONTH % MONTHS + 1);
                characters.add('.');
                addNumber(day % DAYS_OF_MONTH + 1);
            }
        }

        private void addWeekday(int weekday) {
            int start = 2 * weekday;
            if (start >= 0 && start + 1 < WEEKDAYS.length()) {
                characters.add(WEEKDAYS.charAt(start));
                characters.add(WEEKDAYS.charAt(start + 1));
            }
        }

        private void addNumber(int number) {
            for (int unit = GREATEST_UNIT; unit >= 1; unit /= 10) {
                if (number >= unit || unit == 1) {
                    characters.add('0' + number / unit % 10);
                }
            }
        }
    }

    /** A text with its caret and stops. */
    private static final class Text {
        private final Row characters = new Row(MOST_IN_TEXT);
        private final Row stops = new Row(MOST_SIZE);
        private int caret = 0;

        void type(int character) {
            characters.insert(caret, character);
            shiftStops(1);
            caret++;
        }

        int takeOut() {
            shiftStops(-1);
            caret--;
            return characters.removeAt(caret);
        }

        private void shiftStops(int by) {
            for (int i = 0; i < stops.count(); i++) {
                if (stops.at(i) >= caret) {
                    stops.set(i, stops.at(i) + by);
                }
            }
        }

        void replace(int triggerLength, Gift gift) {
            for (int i = 0; i < triggerLength; i++) {
                caret--;
                characters.removeAt(caret);
            }
            for (int i = 0; i < gift.characters.count(); i++) {
                characters.insert(caret + i, gift.characters.at(i));
            }
            stops.empty();
            for (int i = 1; i < gift.stops.count(); i++) {
                stops.add(caret + gift.stops.at(i));
            }
            caret += gift.stops.has(0) ? gift.stops.at(0) : gift.characters.count();
        }

        void copyFrom(Text other) {
            characters.copyFrom(other.characters);
            stops.copyFrom(other.stops);
            caret = other.caret;
        }
    }

    /** All triggers from their last characters on, in nodes that know the one above them. */
    private static final class TriggerTree {
        private static final int ROOT = 0;
        private static final int NO_NODE = -1;

        private final Row parents = new Row(MOST_NODES);
        private final Row characters = new Row(MOST_NODES);
        private final Row endings = new Row(MOST_NODES); // bits of the snippets whose trigger ends here

        TriggerTree() {
            addNode(NO_NODE, 0);
        }

        void empty() {
            parents.empty();
            characters.empty();
            endings.empty();
            addNode(NO_NODE, 0);
        }

        void add(Row trigger, int number) {
            int node = ROOT;
            for (int i = trigger.count() - 1; i >= 0; i--) {
                int child = childOf(node, trigger.at(i));
                node = child == NO_NODE ? addNode(node, trigger.at(i)) : child;
            }
            endings.set(node, endings.at(node) | 1 << number);
        }

        int childOf(int node, int character) {
            for (int child = ROOT + 1; child < parents.count(); child++) {
                if (parents.at(child) == node && characters.at(child) == character) {
                    return child;
                }
            }
            return NO_NODE;
        }

        int endingsAt(int node) {
            return endings.at(node);
        }

        private int addNode(int parent, int character) {
            parents.add(parent);
            characters.add(character);
            endings.add(0);
            return parents.count() - 1;
        }
    }

    /** Numbers up to a greatest count; it looks at each index itself, so that no caller can go astray. */
    private static final class Row {
        private final int[] cells;
        private int count = 0;

        Row(int most) {
            cells = new int[Math.max(most, 0)];
        }

        int count() {
            return count;
        }

        boolean isEmpty() {
            return count <= 0;
        }

        boolean isFull() {
            return count >= cells.length;
        }

        boolean has(int index) {
            return index >= 0 && index < count && index < cells.length;
        }

        int at(int index) {
            return has(index) ? cells[index] : 0;
        }

        void set(int index, int value) {
            if (has(index)) {
                cells[index] = value;
            }
        }

        void add(int value) {
            if (count >= 0 && count < cells.length) {
                cells[count] = value;
                count++;
            }
        }

        void insert(int index, int value) {
            if (index < 0 || index > count || count >= cells.length) {
                return;
            }
            for (int i = count; i > index; i--) {
                cells[i] = cells[i - 1];
            }
            cells[index] = value;
            count++;
        }

        int removeAt(int index) {
            if (!has(index)) {
                return 0;
            }
            int removed = cells[index];
            for (int i = index; i + 1 < count && i + 1 < cells.length; i++) {
                cells[i] = cells[i + 1];
            }
            count--;
            return removed;
        }

        void empty() {
            count = 0;
        }

        void copyFrom(Row other) {
            empty();
            for (int i = 0; i < other.count; i++) {
                add(other.at(i));
            }
        }

        boolean isSameAs(Row other) {
            return count == other.count && endsWith(other, count);
        }

        /** Tells whether the first numbers, as many as typed, end with the ending. */
        boolean endsWith(Row ending, int typed) {
            int start = typed - ending.count;
            if (start < 0 || typed > count) {
                return false;
            }
            for (int i = 0; i < ending.count; i++) {
                if (at(start + i) != ending.at(i)) {
                    return false;
                }
            }
            return true;
        }
    }
}
