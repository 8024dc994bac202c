import java.util.ArrayList;
import java.util.List;
import java.util.NoSuchElementException;

/**
 * The document once more, in the slowest and plainest words: nothing is kept that can be told anew.
 * Only for the tests, which compare it with the program.
 */
final class Model {
    private static final class Entry {
        boolean isForWords;
        boolean isOn = true;
        boolean isSecond;
        String trigger = "";
        List<int[]> parts = new ArrayList<>(); // {'c', character}, {'s', other}, {'?', first, second}, {'d', days, form}, {'|'}
    }

    private record Moment(String text, int caret, List<Integer> stops) {
    }

    private final List<Entry> entries = new ArrayList<>();
    private int today = 99;
    private Moment now = new Moment("", 0, List.of());
    private Moment ahead = null;
    private final List<Integer> kept = new ArrayList<>();
    private int all = 0;

    private Entry entry(int number) {
        if (number < 0 || number >= entries.size()) {
            throw new IndexOutOfBoundsException();
        }
        return entries.get(number);
    }

    private static void check(boolean isRight, RuntimeException otherwise) {
        if (!isRight) {
            throw otherwise;
        }
    }

    private static boolean isTypeable(char character) {
        return ("" + character).matches("[a-z0-9 ;.]");
    }

    int addSnippet(boolean isForWords) {
        check(entries.size() < 8, new IllegalStateException());
        Entry added = new Entry();
        added.isForWords = isForWords;
        entries.add(added);
        return entries.size() - 1;
    }

    int addToTrigger(int number, char character) {
        Entry entry = entry(number);
        check(isTypeable(character), new IllegalArgumentException());
        check(entry.trigger.length() < 6, new IllegalStateException());
        entry.trigger += character;
        return entry.trigger.length();
    }

    int clearTrigger(int number) {
        int before = entry(number).trigger.length();
        entry(number).trigger = "";
        return before;
    }

    boolean setOn(int number, boolean isOn) {
        boolean before = entry(number).isOn;
        entry(number).isOn = isOn;
        return before;
    }

    private int size(int number) {
        int sum = 0;
        for (int[] part : entry(number).parts) {
            sum += switch (part[0]) {
                case 'd' -> 5;
                case 's' -> 1 + size(part[1]);
                case '?' -> 1 + Math.max(size(part[1]), size(part[2]));
                default -> 1;
            };
        }
        return sum;
    }

    private int put(int number, int... part) {
        List<int[]> parts = entry(number).parts;
        check(parts.size() < 12, new IllegalStateException());
        parts.add(part);
        for (int i = 0; i < entries.size(); i++) {
            if (size(i) > 200) {
                parts.remove(parts.size() - 1);
                throw new IllegalStateException();
            }
        }
        return parts.size();
    }

    int putCharacter(int number, char character) {
        entry(number);
        check(isTypeable(character), new IllegalArgumentException());
        return put(number, 'c', character);
    }

    int putSnippet(int number, int other) {
        entry(number);
        entry(other);
        check(number != other && !comesTo(other, number), new UnsupportedOperationException());
        return put(number, 's', other);
    }

    int putChoice(int number, int first, int second) {
        entry(number);
        entry(first);
        entry(second);
        check(number != first && number != second, new UnsupportedOperationException());
        check(!comesTo(first, number) && !comesTo(second, number), new UnsupportedOperationException());
        return put(number, '?', first, second);
    }

    int putDate(int number, int days, char form) {
        entry(number);
        check(Math.abs((long) days) <= 99 && "nwm".indexOf(form) >= 0, new IllegalArgumentException());
        return put(number, 'd', days, form);
    }

    int putStop(int number) {
        return put(number, '|');
    }

    int clearBody(int number) {
        int before = entry(number).parts.size();
        entry(number).parts.clear();
        return before;
    }

    boolean choose(int number, boolean isSecond) {
        boolean before = entry(number).isSecond;
        entry(number).isSecond = isSecond;
        return before;
    }

    int setToday(int day) {
        check(day >= 99 && day <= 9999, new IllegalArgumentException());
        int before = today;
        today = day;
        return before;
    }

    /** The text with a '|' for each stop. */
    private String marked(int number) {
        StringBuilder told = new StringBuilder();
        Entry entry = entry(number);
        for (int[] part : entry.parts) {
            switch (part[0]) {
                case 'c' -> told.append((char) part[1]);
                case 's' -> told.append(marked(part[1]));
                case '?' -> told.append(marked(entry.isSecond ? part[2] : part[1]));
                case 'd' -> told.append(day(today + part[1], (char) part[2]));
                default -> told.append('|');
            }
        }
        return told.toString();
    }

    private static String day(int day, char form) {
        return switch (form) {
            case 'n' -> "" + day;
            case 'w' -> List.of("mo", "tu", "we", "th", "fr", "sa", "su").get(day % 7);
            default -> (day % 360 / 30 + 1) + "." + (day % 30 + 1);
        };
    }

    private String given(int number) {
        return marked(number).replace("|", "");
    }

    private List<Integer> stopsGiven(int number) {
        List<Integer> places = new ArrayList<>();
        String marked = marked(number);
        for (int i = 0; i < marked.length(); i++) {
            if (marked.charAt(i) == '|') {
                places.add(i - places.size());
            }
        }
        return places;
    }

    int lengthOf(int number) {
        return given(number).length();
    }

    char characterOf(int number, int index) {
        String given = given(number);
        check(index >= 0 && index < given.length(), new NoSuchElementException());
        return given.charAt(index);
    }

    int stopsOf(int number) {
        return stopsGiven(number).size();
    }

    int stopOf(int number, int index) {
        List<Integer> stops = stopsGiven(number);
        check(index >= 0 && index < stops.size(), new NoSuchElementException());
        return stops.get(index);
    }

    boolean comesTo(int number, int other) {
        entry(other);
        for (int[] part : entry(number).parts) {
            for (int i = 1; (part[0] == 's' || part[0] == '?') && i < part.length; i++) {
                if (part[i] == other || comesTo(part[i], other)) {
                    return true;
                }
            }
        }
        return false;
    }

    int depth(int number) {
        int inner = 0;
        for (int[] part : entry(number).parts) {
            for (int i = 1; (part[0] == 's' || part[0] == '?') && i < part.length; i++) {
                inner = Math.max(inner, depth(part[i]));
            }
        }
        return inner + 1;
    }

    boolean isShadowedBy(int number, int otherNumber) {
        Entry entry = entry(number);
        Entry other = entry(otherNumber);
        if (!entry.isOn || !other.isOn || entry.trigger.isEmpty() || other.trigger.isEmpty()) {
            return false;
        }
        if (entry.trigger.equals(other.trigger) && otherNumber < number) {
            return true;
        }
        return entry.trigger.substring(0, entry.trigger.length() - 1).contains(other.trigger);
    }

    int shadower(int number) {
        entry(number);
        for (int other = 0; other < entries.size(); other++) {
            if (isShadowedBy(number, other)) {
                return other;
            }
        }
        throw new NoSuchElementException();
    }

    int clashes() {
        int count = 0;
        for (int number = 0; number < entries.size(); number++) {
            for (int other = 0; other < entries.size(); other++) {
                if (isShadowedBy(number, other)) {
                    count++;
                    break;
                }
            }
        }
        return count;
    }

    int key(char character) {
        check(isTypeable(character), new IllegalArgumentException());
        check(now.text.length() < 80, new IllegalStateException());
        String left = now.text.substring(0, now.caret) + character;
        String right = now.text.substring(now.caret);
        List<Integer> moved = new ArrayList<>();
        for (int stop : now.stops) {
            moved.add(stop >= now.caret ? stop + 1 : stop);
        }
        now = new Moment(left + right, left.length(), moved);
        ahead = null;
        int number = matching();
        if (number < 0) {
            return -1;
        }
        String start = left.substring(0, left.length() - entry(number).trigger.length());
        String text = start + given(number) + right;
        if (text.length() > 80) {
            return -1;
        }
        List<Integer> stops = new ArrayList<>();
        for (int stop : stopsGiven(number)) {
            stops.add(start.length() + stop);
        }
        ahead = now;
        int caret = stops.isEmpty() ? start.length() + lengthOf(number) : stops.remove(0);
        now = new Moment(text, caret, stops);
        all++;
        kept.add(lengthOf(number) - entry(number).trigger.length());
        return number;
    }

    char erase() {
        check(now.caret > 0, new NoSuchElementException());
        char erased = now.text.charAt(now.caret - 1);
        List<Integer> moved = new ArrayList<>();
        for (int stop : now.stops) {
            moved.add(stop >= now.caret ? stop - 1 : stop);
        }
        String text = now.text.substring(0, now.caret - 1) + now.text.substring(now.caret);
        now = new Moment(text, now.caret - 1, moved);
        ahead = null;
        return erased;
    }

    int moveCaret(int by) {
        long place = (long) now.caret + by;
        check(place >= 0 && place <= now.text.length(), new IllegalArgumentException());
        now = new Moment(now.text, (int) place, now.stops);
        ahead = null;
        return now.caret;
    }

    int nextStop() {
        check(!now.stops.isEmpty(), new NoSuchElementException());
        List<Integer> left = now.stops.subList(1, now.stops.size());
        now = new Moment(now.text, now.stops.get(0), left);
        ahead = null;
        return now.caret;
    }

    int undo() {
        check(ahead != null, new IllegalStateException());
        now = ahead;
        ahead = null;
        kept.remove(kept.size() - 1);
        return now.text.length();
    }

    int length() {
        return now.text.length();
    }

    char characterAt(int index) {
        check(index >= 0 && index < now.text.length(), new IndexOutOfBoundsException());
        return now.text.charAt(index);
    }

    int caret() {
        return now.caret;
    }

    int stops() {
        return now.stops.size();
    }

    int stopAt(int index) {
        check(index >= 0 && index < now.stops.size(), new IndexOutOfBoundsException());
        return now.stops.get(index);
    }

    int matching() {
        String left = now.text.substring(0, now.caret);
        for (int length = 6; length > 0; length--) {
            for (int number = 0; number < entries.size(); number++) {
                Entry entry = entries.get(number);
                if (entry.isOn && entry.trigger.length() == length && left.endsWith(entry.trigger)) {
                    String start = left.substring(0, left.length() - length);
                    if (!entry.isForWords || !start.matches(".*[a-z0-9]")) {
                        return number;
                    }
                }
            }
        }
        return -1;
    }

    long saved() {
        long sum = 0;
        for (int gain : kept) {
            sum += gain;
        }
        return sum;
    }

    float keptShare() {
        check(all > 0, new NoSuchElementException());
        return (float) kept.size() / (float) all;
    }
}
