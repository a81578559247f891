import java.util.ArrayList;
import java.util.List;

/**
 * Which calls change what: a refused call changes nothing and is no edit, a look at the object is no edit,
 * an edit that changes nothing is an edit, too; and which of several errors is told.
 */
public final class RefusalTests {
    private static final int MIN = Integer.MIN_VALUE;
    private static final int MAX = Integer.MAX_VALUE;
    private static final int INVALID = -1;
    private static final int LONG = -2;
    private static final int MISSING = -3;
    private static final int UNDOABLE = 6;

    private static final String FULL = "0010010100101".repeat(5).substring(0, 60);

    private static int wrong = 0;

    private interface Call {
        int on(SturmianWords x);
    }

    public static void main(String[] args) {
        refusedSlopes();
        refusedTermsAndLetters();
        refusedLoads();
        refusedLetters();
        refusedMorphisms();
        refusedUndo();
        refusedFactors();
        refusedPropertiesOfTheWord();
        refusedGaps();
        looksAtTheObject();
        editsThatChangeNothing();
        editsThatChange();
        invalidArgumentComesFirst();
        System.out.println(wrong == 0 ? "all refusals and edits are as due" : wrong + " answers are not as due");
        if (wrong != 0) {
            System.exit(1);
        }
    }

    // ---- what the tests are written with

    private static void due(String what, int got, int want) {
        if (got != want) {
            wrong++;
            System.out.println(what + " answered " + got + ", due is " + want);
        }
    }

    private static void due(String what, String got, String want) {
        if (!got.equals(want)) {
            wrong++;
            System.out.println(what + " left " + got + ", due is " + want);
        }
    }

    /** A scene: the calls that bring a new object into a state. */
    private static List<Call> scene(Call... calls) {
        return List.of(calls);
    }

    private static List<Call> word(String letters) {
        List<Call> calls = new ArrayList<>();
        calls.add(SturmianWords::clear);
        for (char letter : letters.toCharArray()) {
            calls.add(x -> x.append(letter - '0'));
        }
        return calls;
    }

    /** A scene behind no edit, behind some, and behind more than can be undone. */
    private static List<List<Call>> withHistories(List<Call> scene) {
        // Both lead back to the new object's slope, intercept and word.
        List<Call> some = scene(x -> x.setIntercept(4), x -> x.append(1), x -> x.setSlope(5, 13), SturmianWords::clear);
        List<Call> many = scene(x -> x.append(1), x -> x.setSlope(3, 7), x -> x.append(0), x -> x.setIntercept(6),
            SturmianWords::reverse, x -> x.setSlope(5, 13), x -> x.setIntercept(12), SturmianWords::clear,
            x -> x.setIntercept(0));
        List<List<Call>> all = new ArrayList<>();
        for (List<Call> before : List.of(List.<Call>of(), some, many)) {
            List<Call> calls = new ArrayList<>(before);
            calls.addAll(scene);
            all.add(calls);
        }
        return all;
    }

    private static SturmianWords after(List<Call> calls) {
        SturmianWords x = new SturmianWords();
        for (Call call : calls) {
            call.on(x);
        }
        return x;
    }

    /** All that can be seen of an object; the last look is an edit, so the object is of no more use then. */
    private static String seen(SturmianWords x) {
        StringBuilder text = new StringBuilder();
        text.append(x.slopeNumerator()).append('/').append(x.slopeDenominator());
        text.append(" history ").append(x.historySize());
        text.append(" length ").append(x.length()).append(" weight ").append(x.weight()).append(' ');
        for (int i = 0; i < x.length(); i++) {
            text.append(x.letterAt(i));
        }
        return text.append(" intercept ").append(x.setIntercept(0)).toString();
    }

    /** All that can be seen of the state that the calls lead to, and of each state before it that undo brings back. */
    private static String seenBackwards(List<Call> calls) {
        StringBuilder text = new StringBuilder();
        for (int undos = 0; undos <= UNDOABLE + 1; undos++) {
            SturmianWords x = after(calls);
            text.append("\n  ");
            for (int i = 0; i < undos; i++) {
                text.append(x.undo()).append(' ');
            }
            text.append(seen(x));
        }
        return text.toString();
    }

    /** Behind the scene the call answers this, and neither the state nor any state before it is another then. */
    private static void changesNothing(String name, int want, List<Call> scene, Call call) {
        for (List<Call> calls : withHistories(scene)) {
            due(name, call.on(after(calls)), want);
            List<Call> longer = new ArrayList<>(calls);
            longer.add(call);
            due(name, seenBackwards(longer), seenBackwards(calls));
            longer.add(call);
            due(name + " twice", seenBackwards(longer), seenBackwards(calls));
        }
    }

    private static void changesNothing(String name, int want, Call call) {
        changesNothing(name, want, scene(), call);
    }

    private static String withoutHistory(SturmianWords x) {
        return seen(x).replaceAll("history \\d ", "");
    }

    /** Behind the scene the call answers this and is one edit: one more can be undone, and undo leads back. */
    private static void isEdit(String name, int want, List<Call> scene, Call call) {
        for (List<Call> calls : withHistories(scene)) {
            int before = after(calls).historySize();
            SturmianWords x = after(calls);
            due(name, call.on(x), want);
            due(name + ", then historySize()", x.historySize(), Math.min(before + 1, UNDOABLE));
            due(name + ", then undo()", x.undo(), Math.min(before, UNDOABLE - 1));
            due(name + ", then undo()", withoutHistory(x), withoutHistory(after(calls)));
            dueSameBefore(name, calls, call);
        }
    }

    /** With the edit undone, the next undo brings back what it would have brought back without the edit. */
    private static void dueSameBefore(String name, List<Call> calls, Call call) {
        for (int undos = 1; undos < UNDOABLE; undos++) {
            SturmianWords x = after(calls);
            SturmianWords y = after(calls);
            call.on(x);
            x.undo();
            for (int i = 0; i < undos; i++) {
                x.undo();
                y.undo();
            }
            due(name + ", then " + (undos + 1) + " times undo()", withoutHistory(x), withoutHistory(y));
        }
    }

    /** An edit behind which the state is as before. */
    private static void isEditWithoutChange(String name, int want, List<Call> scene, Call call) {
        isEdit(name, want, scene, call);
        for (List<Call> calls : withHistories(scene)) {
            SturmianWords x = after(calls);
            call.on(x);
            due(name, withoutHistory(x), withoutHistory(after(calls)));
        }
    }

    // ---- "A call that returns an error changes nothing and is no edit."

    private static void refusedSlopes() {
        int[][] slopes = {{-1, 1}, {2, 1}, {0, 0}, {0, -1}, {-1, -1}, {0, 1001}, {1, 1001}, {1001, 1001}, {1001, 1000},
            {-1, 1000}, {MIN, 1}, {MAX, 1}, {0, MIN}, {0, MAX}, {MIN, MIN}, {MIN, MAX}, {MAX, MIN}, {MAX, MAX}};
        for (int[] slope : slopes) {
            String name = "setSlope(" + slope[0] + ", " + slope[1] + ")";
            changesNothing(name, INVALID, x -> x.setSlope(slope[0], slope[1]));
        }
        for (int c : new int[] {-1, 13, MIN, MAX}) {
            changesNothing("setIntercept(" + c + ")", INVALID, x -> x.setIntercept(c));
        }
        changesNothing("setIntercept(4) over 6 / 8", INVALID, scene(x -> x.setSlope(6, 8)), x -> x.setIntercept(4));
        changesNothing("setIntercept(1) over 0 / 1", INVALID, scene(x -> x.setSlope(0, 1)), x -> x.setIntercept(1));
        changesNothing("setIntercept(1000) over 1 / 1000", INVALID,
            scene(x -> x.setSlope(1, 1000), x -> x.setIntercept(999)), x -> x.setIntercept(1000));
    }

    private static void refusedTermsAndLetters() {
        for (int index : new int[] {0, -1, MIN}) {
            changesNothing("continuedFractionTerm(" + index + ")", INVALID, x -> x.continuedFractionTerm(index));
        }
        for (int index : new int[] {5, MAX}) {
            changesNothing("continuedFractionTerm(" + index + ")", MISSING, x -> x.continuedFractionTerm(index));
        }
        changesNothing("continuedFractionTerm(1) of 0", MISSING, scene(x -> x.setSlope(0, 1)),
            x -> x.continuedFractionTerm(1));
        for (int n : new int[] {-1, 1000001, MIN, MAX}) {
            changesNothing("mechanicalLetter(" + n + ", false)", INVALID, x -> x.mechanicalLetter(n, false));
            changesNothing("mechanicalLetter(" + n + ", true)", INVALID, x -> x.mechanicalLetter(n, true));
        }
    }

    private static void refusedLoads() {
        for (boolean upper : new boolean[] {false, true}) {
            for (int length : new int[] {-1, MIN, 61, MAX}) {
                String name = "loadMechanical(" + length + ", " + upper + ")";
                int want = length < 0 ? INVALID : LONG;
                changesNothing(name, want, word("101"), x -> x.loadMechanical(length, upper));
            }
        }
        for (int k : new int[] {-2, MIN}) {
            changesNothing("loadStandard(" + k + ")", INVALID, word("101"), x -> x.loadStandard(k));
        }
        for (int k : new int[] {5, MAX}) {
            changesNothing("loadStandard(" + k + ")", MISSING, word("101"), x -> x.loadStandard(k));
        }
        List<Call> manyTerms = scene(x -> x.setSlope(610, 987));
        changesNothing("loadStandard(1) of 0", MISSING, scene(x -> x.setSlope(0, 1)), x -> x.loadStandard(1));
        changesNothing("loadStandard(1) of 1 / 61", LONG, scene(x -> x.setSlope(1, 61)), x -> x.loadStandard(1));
        changesNothing("loadStandard(10) of 610 / 987", LONG, manyTerms, x -> x.loadStandard(10));
        changesNothing("loadStandard(15) of 610 / 987", MISSING, manyTerms, x -> x.loadStandard(15));
    }

    private static void refusedLetters() {
        for (int letter : new int[] {-1, 2, MIN, MAX}) {
            changesNothing("append(" + letter + ") to no letter", INVALID, x -> x.append(letter));
            changesNothing("append(" + letter + ") to 60 letters", INVALID, word(FULL), x -> x.append(letter));
        }
        changesNothing("append(0) to 60 letters", LONG, word(FULL), x -> x.append(0));
        changesNothing("append(1) to 60 letters", LONG, word(FULL), x -> x.append(1));
        changesNothing("removeLast() of no letter", MISSING, SturmianWords::removeLast);
        changesNothing("removeLast() of no letter left", MISSING, scene(x -> x.append(1), SturmianWords::removeLast),
            SturmianWords::removeLast);
    }

    private static void refusedMorphisms() {
        for (int morphism : new int[] {-1, 5, MIN, MAX}) {
            for (String letters : new String[] {"", "0110", FULL}) {
                List<Call> scene = word(letters);
                String arguments = "(" + morphism + ") with " + letters;
                changesNothing("applyMorphism" + arguments, INVALID, scene, x -> x.applyMorphism(morphism));
                changesNothing("invertMorphism" + arguments, INVALID, scene, x -> x.invertMorphism(morphism));
            }
        }
        for (int morphism = 1; morphism <= 4; morphism++) {
            int m = morphism;
            changesNothing("applyMorphism(" + m + ") to 60 letters", LONG, word(FULL), x -> x.applyMorphism(m));
            String doubled = m < 3 ? "0" : "1";
            changesNothing("applyMorphism(" + m + ") to 41 letters", LONG, word("0110".repeat(10) + doubled),
                x -> x.applyMorphism(m));
            changesNothing("invertMorphism(" + m + ") of 11", MISSING, word("11"), x -> x.invertMorphism(m));
            changesNothing("invertMorphism(" + m + ") of 0110", MISSING, word("0110"), x -> x.invertMorphism(m));
        }
    }

    private static void refusedUndo() {
        List<Call> none = scene();
        List<Call> undone = scene(x -> x.append(1), SturmianWords::undo);
        List<Call> allUndone = new ArrayList<>(word("01010101"));
        for (int i = 0; i < UNDOABLE; i++) {
            allUndone.add(SturmianWords::undo);
        }
        for (List<Call> calls : List.of(none, undone, allUndone)) {
            due("undo() of nothing", after(calls).undo(), MISSING);
            List<Call> longer = new ArrayList<>(calls);
            longer.add(SturmianWords::undo);
            due("undo() of nothing", seenBackwards(longer), seenBackwards(calls));
        }
    }

    private static void refusedFactors() {
        for (int number : new int[] {-1, MIN}) {
            changesNothing("letterAt(" + number + ")", INVALID, word("0110"), x -> x.letterAt(number));
            changesNothing("factorCount(" + number + ")", INVALID, word("0110"), x -> x.factorCount(number));
            changesNothing("factorAt(1, " + number + ")", INVALID, word("0110"), x -> x.factorAt(1, number));
        }
        for (int index : new int[] {4, MAX}) {
            changesNothing("letterAt(" + index + ")", MISSING, word("0110"), x -> x.letterAt(index));
            changesNothing("factorAt(1, " + index + ")", MISSING, word("0110"), x -> x.factorAt(1, index));
        }
        for (int length : new int[] {0, -1, 31, MIN, MAX}) {
            changesNothing("factorAt(" + length + ", 0)", INVALID, word(FULL), x -> x.factorAt(length, 0));
        }
        changesNothing("letterAt(0) of no letter", MISSING, x -> x.letterAt(0));
        changesNothing("factorAt(1, 0) of no letter", MISSING, x -> x.factorAt(1, 0));
        changesNothing("letterAt(60) of 60 letters", MISSING, word(FULL), x -> x.letterAt(60));
    }

    private static void refusedPropertiesOfTheWord() {
        changesNothing("unbalancedLength() of a balanced word", MISSING, word(FULL), SturmianWords::unbalancedLength);
        changesNothing("unbalancedLength() of no letter", MISSING, SturmianWords::unbalancedLength);
        changesNothing("leastPeriod() of no letter", MISSING, SturmianWords::leastPeriod);
        for (int part : new int[] {-1, 3, MIN, MAX}) {
            changesNothing("simplestSlope(" + part + ")", INVALID, word("001"), x -> x.simplestSlope(part));
        }
        for (int part = 0; part <= 2; part++) {
            int chosen = part;
            changesNothing("simplestSlope(" + part + ") of 0011", MISSING, word("0011"), x -> x.simplestSlope(chosen));
        }
    }

    private static void refusedGaps() {
        for (int m : new int[] {0, -1, 1001, MIN, MAX}) {
            changesNothing("gapSizeCount(" + m + ")", INVALID, x -> x.gapSizeCount(m));
            changesNothing("gapSize(" + m + ", 0)", INVALID, x -> x.gapSize(m, 0));
            changesNothing("gapsOfSize(" + m + ", 1)", INVALID, x -> x.gapsOfSize(m, 1));
        }
        for (int number : new int[] {-1, MIN}) {
            changesNothing("gapSize(4, " + number + ")", INVALID, x -> x.gapSize(4, number));
            changesNothing("gapsOfSize(4, " + number + ")", INVALID, x -> x.gapsOfSize(4, number));
        }
        changesNothing("gapsOfSize(4, 0)", INVALID, x -> x.gapsOfSize(4, 0));
        changesNothing("gapSize(4, 3)", MISSING, x -> x.gapSize(4, 3));
        changesNothing("gapSize(4, MAX)", MISSING, x -> x.gapSize(4, MAX));
    }

    // ---- only the ten calls that the document names are edits

    private static void looksAtTheObject() {
        List<Call> scene = new ArrayList<>(word("00100101"));
        scene.add(x -> x.setIntercept(7));
        changesNothing("slopeNumerator()", 5, scene, SturmianWords::slopeNumerator);
        changesNothing("slopeDenominator()", 13, scene, SturmianWords::slopeDenominator);
        changesNothing("continuedFractionTerm(4)", 2, scene, x -> x.continuedFractionTerm(4));
        changesNothing("mechanicalLetter(1000000, false)", 1, scene, x -> x.mechanicalLetter(1000000, false));
        changesNothing("mechanicalLetter(0, true)", 0, scene, x -> x.mechanicalLetter(0, true));
        changesNothing("length()", 8, scene, SturmianWords::length);
        changesNothing("weight()", 3, scene, SturmianWords::weight);
        changesNothing("letterAt(7)", 1, scene, x -> x.letterAt(7));
        changesNothing("factorCount(3)", 4, scene, x -> x.factorCount(3));
        changesNothing("factorAt(3, 3)", 5, scene, x -> x.factorAt(3, 3));
        changesNothing("unbalancedLength()", 2, word("0011"), SturmianWords::unbalancedLength);
        changesNothing("palindromeCount()", 9, scene, SturmianWords::palindromeCount);
        changesNothing("longestPalindromicPrefix()", 5, scene, SturmianWords::longestPalindromicPrefix);
        changesNothing("leastPeriod()", 8, scene, SturmianWords::leastPeriod);
        changesNothing("isCentral()", 0, scene, SturmianWords::isCentral);
        changesNothing("simplestSlope(1)", 5, word("00101001"), x -> x.simplestSlope(1));
        changesNothing("gapSizeCount(4)", 3, scene, x -> x.gapSizeCount(4));
        changesNothing("gapSize(4, 2)", 5, scene, x -> x.gapSize(4, 2));
        changesNothing("gapsOfSize(4, 3)", 2, scene, x -> x.gapsOfSize(4, 3));
        for (List<Call> calls : withHistories(scene())) {
            List<Call> longer = new ArrayList<>(calls);
            longer.add(SturmianWords::historySize);
            due("historySize()", seenBackwards(longer), seenBackwards(calls));
        }
    }

    // ---- "An edit that changes nothing is an edit, too."

    private static void editsThatChangeNothing() {
        isEditWithoutChange("setSlope(5, 13) of 5 / 13", 13, scene(), x -> x.setSlope(5, 13));
        isEditWithoutChange("setSlope(10, 26) of 5 / 13", 13, scene(), x -> x.setSlope(10, 26));
        isEditWithoutChange("setIntercept(0) of 0", 0, scene(), x -> x.setIntercept(0));
        isEditWithoutChange("setIntercept(12) of 12", 12, scene(x -> x.setIntercept(12)), x -> x.setIntercept(12));
        isEditWithoutChange("loadMechanical(0, false)", 0, scene(), x -> x.loadMechanical(0, false));
        isEditWithoutChange("loadMechanical(60, false)", 23, word(FULL), x -> x.loadMechanical(60, false));
        isEditWithoutChange("loadStandard(0) of 0", 1, word("0"), x -> x.loadStandard(0));
        isEditWithoutChange("clear() of no letter", 0, scene(), SturmianWords::clear);
        isEditWithoutChange("reverse() of no letter", 0, scene(), SturmianWords::reverse);
        isEditWithoutChange("reverse() of 010010", 0, word("010010"), SturmianWords::reverse);
        for (int morphism = 0; morphism <= 4; morphism++) {
            int m = morphism;
            isEditWithoutChange("applyMorphism(" + m + ") to no letter", 0, scene(), x -> x.applyMorphism(m));
            isEditWithoutChange("invertMorphism(" + m + ") of no letter", 0, scene(), x -> x.invertMorphism(m));
        }
        for (int morphism = 3; morphism <= 4; morphism++) {
            int m = morphism;
            isEditWithoutChange("applyMorphism(" + m + ") to 000", 3, word("000"), x -> x.applyMorphism(m));
            isEditWithoutChange("invertMorphism(" + m + ") of 000", 3, word("000"), x -> x.invertMorphism(m));
        }
    }

    private static void editsThatChange() {
        isEdit("setSlope(0, 1)", 1, scene(x -> x.setIntercept(12)), x -> x.setSlope(0, 1));
        isEdit("setSlope(999, 1000)", 1000, word(FULL), x -> x.setSlope(999, 1000));
        isEdit("setIntercept(12)", 0, scene(x -> x.setSlope(5, 13)), x -> x.setIntercept(12));
        isEdit("loadMechanical(60, true)", 24, word("1"), x -> x.loadMechanical(60, true));
        isEdit("loadMechanical(0, true)", 0, word(FULL), x -> x.loadMechanical(0, true));
        isEdit("loadStandard(-1)", 1, word(FULL), x -> x.loadStandard(-1));
        isEdit("loadStandard(4)", 13, word(""), x -> x.loadStandard(4));
        isEdit("append(1)", 60, word(FULL.substring(0, 59)), x -> x.append(1));
        isEdit("append(0)", 1, scene(), x -> x.append(0));
        isEdit("removeLast()", 1, word("1"), SturmianWords::removeLast);
        isEdit("removeLast()", 0, word(FULL.substring(0, 59)), SturmianWords::removeLast);
        isEdit("clear()", 60, word(FULL), SturmianWords::clear);
        isEdit("reverse()", 1, word(FULL), SturmianWords::reverse);
        isEdit("applyMorphism(0)", 60, word(FULL), x -> x.applyMorphism(0));
        isEdit("applyMorphism(1)", 60, word("0".repeat(30)), x -> x.applyMorphism(1));
        isEdit("invertMorphism(0)", 60, word(FULL), x -> x.invertMorphism(0));
        isEdit("invertMorphism(3)", 37, word(FULL), x -> x.invertMorphism(3));
    }

    // ---- "If several errors apply to a call, INVALID_ARGUMENT is returned rather than TOO_LONG,
    // ---- and TOO_LONG rather than NOT_FOUND."

    /**
     * TOO_LONG and NOT_FOUND never apply both: loadStandard is the one call that knows both, and what
     * does not exist is not too long.
     */
    private static void invalidArgumentComesFirst() {
        due("append(2) to 60 letters", after(word(FULL)).append(2), INVALID);
        due("append(-1) to 60 letters", after(word(FULL)).append(-1), INVALID);
        due("applyMorphism(5) to 60 letters", after(word(FULL)).applyMorphism(5), INVALID);
        due("applyMorphism(-1) to 60 letters", after(word(FULL)).applyMorphism(-1), INVALID);
        due("invertMorphism(5) of 11", after(word("11")).invertMorphism(5), INVALID);
        due("invertMorphism(-1) of 11", after(word("11")).invertMorphism(-1), INVALID);
        due("loadStandard(-2) of 1 / 1000", after(scene(x -> x.setSlope(1, 1000))).loadStandard(-2), INVALID);
        due("loadStandard(-2) of 0", after(scene(x -> x.setSlope(0, 1))).loadStandard(-2), INVALID);
        due("continuedFractionTerm(0) of 0", after(scene(x -> x.setSlope(0, 1))).continuedFractionTerm(0), INVALID);
        due("letterAt(-1) of no letter", new SturmianWords().letterAt(-1), INVALID);
        due("factorAt(31, 0) of no letter", new SturmianWords().factorAt(31, 0), INVALID);
        due("factorAt(0, MAX) of no letter", new SturmianWords().factorAt(0, MAX), INVALID);
        due("factorAt(30, -1) of no letter", new SturmianWords().factorAt(30, -1), INVALID);
        due("simplestSlope(3) of 0011", after(word("0011")).simplestSlope(3), INVALID);
        due("simplestSlope(-1) of 0011", after(word("0011")).simplestSlope(-1), INVALID);
        due("gapSize(0, 3)", new SturmianWords().gapSize(0, 3), INVALID);
        due("gapSize(1001, MAX)", new SturmianWords().gapSize(1001, MAX), INVALID);
        due("gapsOfSize(1001, 1001)", new SturmianWords().gapsOfSize(1001, 1001), INVALID);
        due("loadStandard(15) of 610 / 987", after(scene(x -> x.setSlope(610, 987))).loadStandard(15), MISSING);
        due("loadStandard(14) of 610 / 987", after(scene(x -> x.setSlope(610, 987))).loadStandard(14), LONG);
    }
}
