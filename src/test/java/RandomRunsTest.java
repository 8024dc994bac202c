import java.util.ArrayList;
import java.util.List;
import java.util.Random;

/** Compares long runs of calls with the model; the seeds are fixed, so every run can be told again. */
public final class RandomRunsTest {
    private static final int RUNS = 3000;
    private static final int CALLS = 512;
    private static final int[] ODD = {-1, Integer.MIN_VALUE, Integer.MAX_VALUE, 200, 80, 81, 8, 9, 12};

    private static final Checks CHECKS = new Checks();

    private final Random random;
    private final int snippets;
    private final String letters;
    private final ShorthandRules program = new ShorthandRules();
    private final Model model = new Model();
    private final List<String> told = new ArrayList<>();

    private RandomRunsTest(int seed) {
        random = new Random(seed);
        snippets = 1 + random.nextInt(8);
        letters = seed % 3 == 0 ? "ab" : seed % 3 == 1 ? "ab ;" : "abc19. ";
    }

    public static void main(String[] args) {
        for (int seed = 0; seed < RUNS; seed++) {
            if (!new RandomRunsTest(seed).isAsDue()) {
                break;
            }
        }
        CHECKS.end("RandomRunsTest");
    }

    private boolean isAsDue() {
        // Every third run begins with its snippets, the others make them on the way.
        int begun = random.nextInt(3) == 0 ? snippets : 1;
        for (int i = 0; i < begun; i++) {
            call(0);
        }
        for (int i = begun; i < CALLS; i++) {
            if (!call(random.nextInt(100))) {
                System.out.println(String.join(", ", told));
                return false;
            }
        }
        return true;
    }

    private boolean due(String call, Checks.Call ofModel, Checks.Call ofProgram) {
        told.add(call);
        Object want = Checks.answerOf(ofModel);
        Object got = Checks.answerOf(ofProgram);
        CHECKS.due(call, want, got);
        return want.equals(got);
    }

    private int snippet() {
        return random.nextInt(40) == 0 ? odd() : random.nextInt(snippets);
    }

    private int odd() {
        return ODD[random.nextInt(ODD.length)];
    }

    private int upTo(int most) {
        return random.nextInt(20) == 0 ? odd() : random.nextInt(most + 1);
    }

    private char character() {
        if (random.nextInt(40) == 0) {
            return (char) random.nextInt(random.nextBoolean() ? 128 : 65536);
        }
        return letters.charAt(random.nextInt(letters.length()));
    }

    private boolean call(int kind) {
        if (kind < 22) {
            return callOfSnippets(kind);
        }
        return kind < 40 ? callOfGifts(kind) : callOfText(kind);
    }

    private boolean callOfSnippets(int kind) {
        int s = snippet();
        int o = snippet();
        int p = snippet();
        char c = character();
        boolean is = random.nextBoolean();
        int days = random.nextInt(10) == 0 ? 90 + random.nextInt(20) : random.nextInt(199) - 99;
        char form = "nwmx".charAt(Math.min(random.nextInt(12) / 3, random.nextInt(20)));
        int day = random.nextInt(4) == 0 ? 90 + random.nextInt(20) : random.nextInt(10100);
        switch (kind) {
            case 0: case 1:
                return due("addSnippet(" + is + ")", () -> model.addSnippet(is), () -> program.addSnippet(is));
            case 2: case 3: case 4:
                return due("addToTrigger(" + s + ", '" + c + "')",
                        () -> model.addToTrigger(s, c), () -> program.addToTrigger(s, c));
            case 5:
                return due("clearTrigger(" + s + ")", () -> model.clearTrigger(s), () -> program.clearTrigger(s));
            case 6:
                boolean isOn = is || random.nextBoolean();
                return due("setOn(" + s + ", " + isOn + ")",
                        () -> model.setOn(s, isOn), () -> program.setOn(s, isOn));
            case 7: case 8:
                return due("putCharacter(" + s + ", '" + c + "')",
                        () -> model.putCharacter(s, c), () -> program.putCharacter(s, c));
            case 9: case 10: case 11: case 12:
                return due("putSnippet(" + s + ", " + o + ")",
                        () -> model.putSnippet(s, o), () -> program.putSnippet(s, o));
            case 13: case 14:
                return due("putChoice(" + s + ", " + o + ", " + p + ")",
                        () -> model.putChoice(s, o, p), () -> program.putChoice(s, o, p));
            case 15: case 16:
                return due("putDate(" + s + ", " + days + ", '" + form + "')",
                        () -> model.putDate(s, days, form), () -> program.putDate(s, days, form));
            case 17: case 18:
                return due("putStop(" + s + ")", () -> model.putStop(s), () -> program.putStop(s));
            case 19:
                return random.nextInt(3) != 0
                        || due("clearBody(" + s + ")", () -> model.clearBody(s), () -> program.clearBody(s));
            case 20:
                return due("choose(" + s + ", " + is + ")", () -> model.choose(s, is), () -> program.choose(s, is));
            default:
                return due("setToday(" + day + ")", () -> model.setToday(day), () -> program.setToday(day));
        }
    }

    private boolean callOfGifts(int kind) {
        int s = snippet();
        int o = snippet();
        int index = upTo(12);
        switch (kind) {
            case 22: case 23:
                return due("lengthOf(" + s + ")", () -> model.lengthOf(s), () -> program.lengthOf(s));
            case 24: case 25: case 26:
                return due("characterOf(" + s + ", " + index + ")",
                        () -> model.characterOf(s, index), () -> program.characterOf(s, index));
            case 27: case 28:
                return due("stopsOf(" + s + ")", () -> model.stopsOf(s), () -> program.stopsOf(s));
            case 29: case 30:
                return due("stopOf(" + s + ", " + index + ")",
                        () -> model.stopOf(s, index), () -> program.stopOf(s, index));
            case 31: case 32:
                return due("comesTo(" + s + ", " + o + ")", () -> model.comesTo(s, o), () -> program.comesTo(s, o));
            case 33: case 34:
                return due("depth(" + s + ")", () -> model.depth(s), () -> program.depth(s));
            case 35: case 36:
                return due("isShadowedBy(" + s + ", " + o + ")",
                        () -> model.isShadowedBy(s, o), () -> program.isShadowedBy(s, o));
            case 37: case 38:
                return due("shadower(" + s + ")", () -> model.shadower(s), () -> program.shadower(s));
            default:
                return due("clashes()", () -> model.clashes(), () -> program.clashes());
        }
    }

    private boolean callOfText(int kind) {
        char c = character();
        int index = upTo(random.nextBoolean() ? 79 : 6);
        int by = random.nextInt(20) == 0 ? odd() : random.nextInt(9) - 4;
        if (kind < 68) {
            return due("key('" + c + "')", () -> model.key(c), () -> program.key(c));
        }
        switch (kind) {
            case 68: case 69: case 70:
                return due("erase()", () -> model.erase(), () -> program.erase());
            case 71: case 72:
                return due("moveCaret(" + by + ")", () -> model.moveCaret(by), () -> program.moveCaret(by));
            case 73: case 74: case 75:
                return due("nextStop()", () -> model.nextStop(), () -> program.nextStop());
            case 76: case 77: case 78: case 79:
                return due("undo()", () -> model.undo(), () -> program.undo());
            case 80: case 81:
                return due("length()", () -> model.length(), () -> program.length());
            case 82: case 83: case 84: case 85:
                return due("characterAt(" + index + ")",
                        () -> model.characterAt(index), () -> program.characterAt(index));
            case 86: case 87:
                return due("caret()", () -> model.caret(), () -> program.caret());
            case 88: case 89:
                return due("stops()", () -> model.stops(), () -> program.stops());
            case 90: case 91:
                return due("stopAt(" + index + ")", () -> model.stopAt(index), () -> program.stopAt(index));
            case 92: case 93:
                return due("matching()", () -> model.matching(), () -> program.matching());
            case 94: case 95:
                return due("matchingByLooking()", () -> model.matching(), () -> program.matchingByLooking());
            case 96: case 97:
                return due("saved()", () -> model.saved(), () -> program.saved());
            default:
                return due("keptShare()", () -> model.keptShare(), () -> program.keptShare());
        }
    }
}
