/** A test for each sentence of the document that names a boundary: the last value inside it and the first outside. */
public final class BoundaryTests {
    private static final int MIN = Integer.MIN_VALUE;
    private static final int MAX = Integer.MAX_VALUE;
    private static final int INVALID = -1;
    private static final int LONG = -2;
    private static final int MISSING = -3;
    private static final boolean[] BOTH = {false, true};

    private static String sentence = "";
    private static int wrong = 0;

    public static void main(String[] args) {
        slopesAndIntercepts();
        mechanicalAndStandardWords();
        changesOfTheWord();
        undoneEdits();
        lettersAndFactors();
        palindromesAndPeriods();
        simplestSlopes();
        gaps();
        System.out.println(wrong == 0 ? "all boundaries hold" : wrong + " answers are not as due");
        if (wrong != 0) {
            System.exit(1);
        }
    }

    // ---- what the tests are written with

    private static void test(String words, Runnable body) {
        sentence = words;
        body.run();
    }

    private static void due(String call, int got, int want) {
        if (got != want) {
            wrong++;
            System.out.println(sentence + ": " + call + " answered " + got + ", due is " + want);
        }
    }

    private static void dueWord(String call, SturmianWords x, String want) {
        StringBuilder got = new StringBuilder();
        for (int i = 0; i < x.length(); i++) {
            got.append(x.letterAt(i));
        }
        if (!got.toString().equals(want)) {
            wrong++;
            System.out.println(sentence + ": " + call + " left the word " + got + ", due is " + want);
        }
        due("weight() after " + call, x.weight(), weight(want));
    }

    private static SturmianWords with(String word) {
        SturmianWords x = new SturmianWords();
        for (int i = 0; i < word.length(); i++) {
            x.append(word.charAt(i) - '0');
        }
        return x;
    }

    private static SturmianWords sloped(int p, int q) {
        SturmianWords x = new SturmianWords();
        x.setSlope(p, q);
        return x;
    }

    private static String zeros(int count) {
        return "0".repeat(count);
    }

    private static String ones(int count) {
        return "1".repeat(count);
    }

    private static int weight(String word) {
        return word.length() - word.replace("1", "").length();
    }

    private static int commonDivisor(int a, int b) {
        return a == 0 ? b : commonDivisor(b % a, a);
    }

    // ---- promises 1 to 6

    private static void slopesAndIntercepts() {
        test("1: an empty current word and an empty history", BoundaryTests::newObject);
        test("2: p: numerator, 0 to q", BoundaryTests::numeratorRange);
        test("2: q: denominator, 1 to 1000", BoundaryTests::denominatorRange);
        test("2: reduced to lowest terms", BoundaryTests::lowestTerms);
        test("2: and the intercept to 0", BoundaryTests::interceptGoesToZero);
        test("3: 0 to q - 1", BoundaryTests::interceptRange);
        test("3: where q is the denominator of the slope", BoundaryTests::interceptRangeInLowestTerms);
        test("3: the previous numerator of the intercept", BoundaryTests::previousIntercept);
        test("4, 5: 0 <= p <= q and 1 <= q <= 1000", BoundaryTests::outermostSlopes);
        test("6: index: 1 or more", BoundaryTests::termIndexRange);
        test("6: NOT_FOUND if there is no such term", BoundaryTests::noSuchTerm);
        test("6: for the slope 0 no terms, for the slope 1 it is [0; 1]", BoundaryTests::termsOfZeroAndOne);
        test("6: if n >= 2, an >= 2", BoundaryTests::lastTermIsTwoOrMore);
    }

    private static void newObject() {
        SturmianWords x = new SturmianWords();
        due("length()", x.length(), 0);
        due("weight()", x.weight(), 0);
        due("letterAt(0)", x.letterAt(0), MISSING);
        due("removeLast()", x.removeLast(), MISSING);
        due("historySize()", x.historySize(), 0);
        due("undo()", x.undo(), MISSING);
        due("slopeNumerator()", x.slopeNumerator(), 5);
        due("slopeDenominator()", x.slopeDenominator(), 13);
        due("setIntercept(0)", x.setIntercept(0), 0);
    }

    private static void numeratorRange() {
        for (int q : new int[] {1, 2, 13, 999, 1000}) {
            SturmianWords x = new SturmianWords();
            due("setSlope(-1, " + q + ")", x.setSlope(-1, q), INVALID);
            due("setSlope(q + 1, " + q + ")", x.setSlope(q + 1, q), INVALID);
            due("setSlope(MIN, " + q + ")", x.setSlope(MIN, q), INVALID);
            due("setSlope(MAX, " + q + ")", x.setSlope(MAX, q), INVALID);
            due("the refused numerators' edits", x.historySize(), 0);
            due("setSlope(0, " + q + ")", x.setSlope(0, q), 1);
            due("slopeNumerator() of 0 / " + q, x.slopeNumerator(), 0);
            due("setSlope(q, " + q + ")", x.setSlope(q, q), 1);
            due("slopeNumerator() of q / " + q, x.slopeNumerator(), 1);
        }
    }

    private static void denominatorRange() {
        SturmianWords x = new SturmianWords();
        for (int q : new int[] {0, -1, -2, MIN, MIN + 1}) {
            for (int p : new int[] {0, 1, -1, q, MIN, MAX}) {
                due("setSlope(" + p + ", " + q + ")", x.setSlope(p, q), INVALID);
            }
        }
        for (int q : new int[] {1001, 1002, 2000, MAX - 1, MAX}) {
            for (int p : new int[] {0, 1, 2, 1000, q - 1, q, MIN, MAX}) {
                due("setSlope(" + p + ", " + q + ")", x.setSlope(p, q), INVALID);
            }
        }
        due("the refused denominators' edits", x.historySize(), 0);
        due("setSlope(0, 1)", x.setSlope(0, 1), 1);
        due("setSlope(1, 1)", x.setSlope(1, 1), 1);
        due("setSlope(1, 1000)", x.setSlope(1, 1000), 1000);
        due("setSlope(999, 1000)", x.setSlope(999, 1000), 1000);
    }

    private static void lowestTerms() {
        for (int q : new int[] {1, 2, 60, 61, 997, 999, 1000}) {
            for (int p = 0; p <= q; p++) {
                SturmianWords x = new SturmianWords();
                int divisor = commonDivisor(p, q);
                due("setSlope(" + p + ", " + q + ")", x.setSlope(p, q), q / divisor);
                due("slopeNumerator() of " + p + " / " + q, x.slopeNumerator(), p / divisor);
                due("slopeDenominator() of " + p + " / " + q, x.slopeDenominator(), q / divisor);
            }
        }
    }

    private static void interceptGoesToZero() {
        SturmianWords x = new SturmianWords();
        x.setIntercept(12);
        x.setSlope(5, 13);
        due("setIntercept(1) after the same slope", x.setIntercept(1), 0);
        x.setSlope(999, 1000);
        due("setIntercept(999) after another slope", x.setIntercept(999), 0);
        x.setSlope(-1, 5);
        due("setIntercept(0) after a refused slope", x.setIntercept(0), 999);
    }

    private static void interceptRange() {
        int[][] slopes = {{0, 1}, {1, 1}, {1, 2}, {5, 13}, {499, 999}, {1, 1000}, {999, 1000}};
        for (int[] slope : slopes) {
            SturmianWords x = sloped(slope[0], slope[1]);
            int q = slope[1];
            due("setIntercept(-1) over " + q, x.setIntercept(-1), INVALID);
            due("setIntercept(q) over " + q, x.setIntercept(q), INVALID);
            due("setIntercept(MIN) over " + q, x.setIntercept(MIN), INVALID);
            due("setIntercept(MAX) over " + q, x.setIntercept(MAX), INVALID);
            due("the refused intercepts' edits over " + q, x.historySize(), 1);
            due("setIntercept(q - 1) over " + q, x.setIntercept(q - 1), 0);
            due("setIntercept(0) over " + q, x.setIntercept(0), q - 1);
        }
    }

    private static void interceptRangeInLowestTerms() {
        SturmianWords x = sloped(500, 1000);
        due("setIntercept(2) over 500 / 1000", x.setIntercept(2), INVALID);
        due("setIntercept(1) over 500 / 1000", x.setIntercept(1), 0);
        x.setSlope(0, 1000);
        due("setIntercept(1) over 0 / 1000", x.setIntercept(1), INVALID);
        x.undo();
        due("setIntercept(2) when 0 / 1000 is undone", x.setIntercept(2), INVALID);
        due("setIntercept(0) when 0 / 1000 is undone", x.setIntercept(0), 1);
    }

    private static void previousIntercept() {
        SturmianWords x = new SturmianWords();
        due("setIntercept(12)", x.setIntercept(12), 0);
        due("setIntercept(13)", x.setIntercept(13), INVALID);
        due("setIntercept(12) again", x.setIntercept(12), 12);
        due("setIntercept(0)", x.setIntercept(0), 12);
    }

    private static void outermostSlopes() {
        int[][] rows = {{0, 1, 0, 1}, {1, 1, 1, 1}, {0, 1000, 0, 1}, {1, 1000, 1, 1000}, {999, 1000, 999, 1000},
            {1000, 1000, 1, 1}};
        for (int[] row : rows) {
            SturmianWords x = sloped(row[0], row[1]);
            due("slopeNumerator() of " + row[0] + " / " + row[1], x.slopeNumerator(), row[2]);
            due("slopeDenominator() of " + row[0] + " / " + row[1], x.slopeDenominator(), row[3]);
        }
    }

    private static void termIndexRange() {
        SturmianWords x = new SturmianWords();
        SturmianWords none = sloped(0, 1);
        for (int index : new int[] {0, -1, MIN, MIN + 1}) {
            due("continuedFractionTerm(" + index + ") of 5 / 13", x.continuedFractionTerm(index), INVALID);
            due("continuedFractionTerm(" + index + ") of 0", none.continuedFractionTerm(index), INVALID);
        }
        due("continuedFractionTerm(1) of 5 / 13", x.continuedFractionTerm(1), 2);
    }

    private static void noSuchTerm() {
        SturmianWords x = new SturmianWords();
        due("continuedFractionTerm(4) of 5 / 13", x.continuedFractionTerm(4), 2);
        due("continuedFractionTerm(5) of 5 / 13", x.continuedFractionTerm(5), MISSING);
        due("continuedFractionTerm(1000) of 5 / 13", x.continuedFractionTerm(1000), MISSING);
        due("continuedFractionTerm(1001) of 5 / 13", x.continuedFractionTerm(1001), MISSING);
        due("continuedFractionTerm(MAX) of 5 / 13", x.continuedFractionTerm(MAX), MISSING);
        // No fraction with a denominator up to 1000 has more terms than this one.
        x.setSlope(610, 987);
        due("continuedFractionTerm(14) of 610 / 987", x.continuedFractionTerm(14), 2);
        due("continuedFractionTerm(15) of 610 / 987", x.continuedFractionTerm(15), MISSING);
        x.setSlope(1, 1000);
        due("continuedFractionTerm(1) of 1 / 1000", x.continuedFractionTerm(1), 1000);
        due("continuedFractionTerm(2) of 1 / 1000", x.continuedFractionTerm(2), MISSING);
    }

    private static void termsOfZeroAndOne() {
        SturmianWords x = sloped(0, 1);
        due("continuedFractionTerm(1) of 0", x.continuedFractionTerm(1), MISSING);
        due("continuedFractionTerm(MAX) of 0", x.continuedFractionTerm(MAX), MISSING);
        x.setSlope(1000, 1000);
        due("continuedFractionTerm(1) of 1", x.continuedFractionTerm(1), 1);
        due("continuedFractionTerm(2) of 1", x.continuedFractionTerm(2), MISSING);
    }

    private static void lastTermIsTwoOrMore() {
        for (int q : new int[] {1, 2, 3, 60, 987, 997, 1000}) {
            for (int p = 0; p <= q; p++) {
                if (commonDivisor(p, q) == 1) {
                    dueTermsAddUp(p, q);
                }
            }
        }
    }

    /** The terms, from the last on, give the slope again, and a last term after others is 2 or more. */
    private static void dueTermsAddUp(int p, int q) {
        SturmianWords x = sloped(p, q);
        int count = 0;
        while (count < 1000 && x.continuedFractionTerm(count + 1) > 0) {
            count++;
        }
        due("the term behind the last of " + p + " / " + q, x.continuedFractionTerm(count + 1), MISSING);
        if (count >= 2) {
            due("the last term of " + p + " / " + q, Math.min(2, x.continuedFractionTerm(count)), 2);
        }
        int over = 0;
        int under = 1;
        for (int index = count; index >= 1; index--) {
            int sum = x.continuedFractionTerm(index) * under + over;
            over = under;
            under = sum;
        }
        due("the numerator from the terms of " + p + " / " + q, over, p);
        due("the denominator from the terms of " + p + " / " + q, under, q);
    }

    // ---- promises 7 to 9

    private static void mechanicalAndStandardWords() {
        test("7: n: 0 to 1000000", BoundaryTests::letterNumberRange);
        test("7: for n >= 0, the letter n", BoundaryTests::farLettersRepeat);
        test("7: all letters are 0 or 1", BoundaryTests::lettersAreZeroOrOne);
        test("7: the intercept, 0 <= c < q", BoundaryTests::lettersAtOutermostIntercepts);
        test("8: length: 0 or more", BoundaryTests::mechanicalLengthFromZero);
        test("8: TOO_LONG if it is greater than 60", BoundaryTests::mechanicalLengthToSixty);
        test("9: k: -1 or more", BoundaryTests::standardFromMinusOne);
        test("9: NOT_FOUND if k is greater than the number of terms", BoundaryTests::standardToTheLastTerm);
        test("9: TOO_LONG if s(k) exists and has more than 60 letters", BoundaryTests::standardToSixty);
        test("9: s(1) = s(0) repeated a1 - 1 times followed by s(-1)", BoundaryTests::firstStandardWord);
        test("9: the standard words of the slopes 0 and 1", BoundaryTests::standardOfZeroAndOne);
    }

    private static void letterNumberRange() {
        int[][] slopes = {{0, 1}, {1, 1}, {5, 13}, {999, 1000}};
        for (int[] slope : slopes) {
            SturmianWords x = sloped(slope[0], slope[1]);
            for (boolean upper : BOTH) {
                for (int n : new int[] {-1, 1000001, MIN, MIN + 1, MAX - 1, MAX}) {
                    due("mechanicalLetter(" + n + ", " + upper + ")", x.mechanicalLetter(n, upper), INVALID);
                }
            }
        }
        SturmianWords x = new SturmianWords();
        due("mechanicalLetter(0, false)", x.mechanicalLetter(0, false), 0);
        due("mechanicalLetter(0, true)", x.mechanicalLetter(0, true), 1);
        // 1000000 = 76923 * 13 + 1, so these are the letters 1 and 0 of 5 / 13.
        due("mechanicalLetter(1000000, false)", x.mechanicalLetter(1000000, false), 0);
        due("mechanicalLetter(1000000, true)", x.mechanicalLetter(1000000, true), 0);
        due("mechanicalLetter(999999, false)", x.mechanicalLetter(999999, false), 0);
        due("mechanicalLetter(999999, true)", x.mechanicalLetter(999999, true), 1);
    }

    private static void farLettersRepeat() {
        int[][] slopes = {{5, 13, 12}, {499, 997, 996}, {998, 999, 1}, {999, 1000, 999}};
        for (int[] slope : slopes) {
            SturmianWords x = sloped(slope[0], slope[1]);
            x.setIntercept(slope[2]);
            for (int n = 1000000; n > 999900; n--) {
                for (boolean upper : BOTH) {
                    due("letter " + n + " of " + slope[0] + " / " + slope[1], x.mechanicalLetter(n, upper),
                        x.mechanicalLetter(n % slope[1], upper));
                }
            }
        }
    }

    private static void lettersAreZeroOrOne() {
        for (boolean upper : BOTH) {
            for (int n : new int[] {0, 1, 59, 60, 999999, 1000000}) {
                due("mechanicalLetter(" + n + ", " + upper + ") of 0", sloped(0, 1).mechanicalLetter(n, upper), 0);
                due("mechanicalLetter(" + n + ", " + upper + ") of 1", sloped(1, 1).mechanicalLetter(n, upper), 1);
            }
        }
    }

    private static void lettersAtOutermostIntercepts() {
        SturmianWords x = sloped(1, 1000);
        due("the lower letter 998 with intercept 0", x.mechanicalLetter(998, false), 0);
        due("the lower letter 999 with intercept 0", x.mechanicalLetter(999, false), 1);
        due("the upper letter 0 with intercept 0", x.mechanicalLetter(0, true), 1);
        due("the upper letter 1 with intercept 0", x.mechanicalLetter(1, true), 0);
        x.setIntercept(999);
        due("the lower letter 0 with intercept 999", x.mechanicalLetter(0, false), 1);
        due("the lower letter 1 with intercept 999", x.mechanicalLetter(1, false), 0);
        due("the upper letter 0 with intercept 999", x.mechanicalLetter(0, true), 0);
        due("the upper letter 1 with intercept 999", x.mechanicalLetter(1, true), 1);
    }

    private static void mechanicalLengthFromZero() {
        for (boolean upper : BOTH) {
            SturmianWords x = with("101");
            due("loadMechanical(-1, " + upper + ")", x.loadMechanical(-1, upper), INVALID);
            due("loadMechanical(MIN, " + upper + ")", x.loadMechanical(MIN, upper), INVALID);
            dueWord("the refused loads", x, "101");
            due("the refused loads' edits", x.historySize(), 3);
            due("loadMechanical(0, " + upper + ")", x.loadMechanical(0, upper), 0);
            dueWord("loadMechanical(0, " + upper + ")", x, "");
            due("loadMechanical(1, " + upper + ")", x.loadMechanical(1, upper), upper ? 1 : 0);
            dueWord("loadMechanical(1, " + upper + ")", x, upper ? "1" : "0");
        }
    }

    private static void mechanicalLengthToSixty() {
        String lower = "0010010100101".repeat(5);
        String upper = "1010010100100".repeat(5);
        for (boolean chosen : BOTH) {
            SturmianWords x = new SturmianWords();
            for (int length : new int[] {61, 62, 63, 64, 65, MAX - 1, MAX}) {
                due("loadMechanical(" + length + ", " + chosen + ")", x.loadMechanical(length, chosen), LONG);
            }
            dueWord("the refused loads", x, "");
            due("the refused loads' edits", x.historySize(), 0);
            String word = (chosen ? upper : lower).substring(0, 60);
            due("loadMechanical(60, " + chosen + ")", x.loadMechanical(60, chosen), weight(word));
            dueWord("loadMechanical(60, " + chosen + ")", x, word);
            due("loadMechanical(59, " + chosen + ")", x.loadMechanical(59, chosen), weight(word.substring(0, 59)));
            dueWord("loadMechanical(59, " + chosen + ")", x, word.substring(0, 59));
        }
    }

    private static void standardFromMinusOne() {
        int[][] slopes = {{0, 1}, {1, 1}, {1, 1000}, {999, 1000}, {5, 13}};
        for (int[] slope : slopes) {
            SturmianWords x = sloped(slope[0], slope[1]);
            for (int k : new int[] {-2, -3, MIN, MIN + 1}) {
                due("loadStandard(" + k + ")", x.loadStandard(k), INVALID);
            }
            due("the refused loads' edits", x.historySize(), 1);
            due("loadStandard(-1)", x.loadStandard(-1), 1);
            dueWord("loadStandard(-1)", x, "1");
            due("loadStandard(0)", x.loadStandard(0), 1);
            dueWord("loadStandard(0)", x, "0");
        }
    }

    private static void standardToTheLastTerm() {
        SturmianWords x = new SturmianWords();
        due("loadStandard(4) of 5 / 13", x.loadStandard(4), 13);
        for (int k : new int[] {5, 6, 1000, 1001, MAX - 1, MAX}) {
            due("loadStandard(" + k + ") of 5 / 13", x.loadStandard(k), MISSING);
        }
        dueWord("the refused loads", x, "0100101001010");
        // Of a word that does not exist nothing is said but NOT_FOUND, even if the last one that does is too long.
        x.setSlope(610, 987);
        due("loadStandard(14) of 610 / 987", x.loadStandard(14), LONG);
        due("loadStandard(15) of 610 / 987", x.loadStandard(15), MISSING);
        due("loadStandard(MAX) of 610 / 987", x.loadStandard(MAX), MISSING);
        x.setSlope(1, 1000);
        due("loadStandard(1) of 1 / 1000", x.loadStandard(1), LONG);
        due("loadStandard(2) of 1 / 1000", x.loadStandard(2), MISSING);
    }

    private static int terms(SturmianWords x) {
        int count = 0;
        while (count < 1000 && x.continuedFractionTerm(count + 1) > 0) {
            count++;
        }
        return count;
    }

    /** The last standard word of p / q has q letters, and p of them are 1. */
    private static void standardToSixty() {
        for (int q : new int[] {59, 60, 61, 62, 63, 64, 65, 999, 1000}) {
            for (int p = 1; p <= q; p++) {
                if (commonDivisor(p, q) == 1) {
                    SturmianWords x = sloped(p, q);
                    String call = "loadStandard(n) of " + p + " / " + q;
                    due(call, x.loadStandard(terms(x)), q > 60 ? LONG : q);
                    due(call + " and its length", x.length(), q > 60 ? 0 : q);
                    due(call + " and its weight", x.weight(), q > 60 ? 0 : p);
                    due(call + " and its edits", x.historySize(), q > 60 ? 1 : 2);
                }
            }
        }
        SturmianWords x = sloped(610, 987);
        due("loadStandard(9) of 610 / 987", x.loadStandard(9), 55);
        due("loadStandard(10) of 610 / 987", x.loadStandard(10), LONG);
    }

    private static void firstStandardWord() {
        SturmianWords x = sloped(3, 4);
        due("loadStandard(1) where a1 = 1", x.loadStandard(1), 1);
        dueWord("loadStandard(1) where a1 = 1", x, "1");
        due("loadStandard(2) where a1 = 1", x.loadStandard(2), 4);
        dueWord("loadStandard(2) where a1 = 1", x, "1110");
        x.setSlope(1, 2);
        due("loadStandard(1) where a1 = 2", x.loadStandard(1), 2);
        dueWord("loadStandard(1) where a1 = 2", x, "01");
        x.setSlope(1, 60);
        due("loadStandard(1) where a1 = 60", x.loadStandard(1), 60);
        dueWord("loadStandard(1) where a1 = 60", x, zeros(59) + "1");
        x.setSlope(1, 61);
        due("loadStandard(1) where a1 = 61", x.loadStandard(1), LONG);
    }

    private static void standardOfZeroAndOne() {
        SturmianWords x = sloped(0, 1);
        due("loadStandard(0) of 0", x.loadStandard(0), 1);
        due("loadStandard(1) of 0", x.loadStandard(1), MISSING);
        due("loadStandard(MAX) of 0", x.loadStandard(MAX), MISSING);
        dueWord("the refused loads", x, "0");
        x.setSlope(1, 1);
        due("loadStandard(1) of 1", x.loadStandard(1), 1);
        dueWord("loadStandard(1) of 1", x, "1");
        due("loadStandard(2) of 1", x.loadStandard(2), MISSING);
    }

    // ---- promises 10 to 15

    private static void changesOfTheWord() {
        test("10: letter: 0 or 1", BoundaryTests::letterIsZeroOrOne);
        test("10: TOO_LONG if the word already has 60 letters", BoundaryTests::appendToSixty);
        test("11: NOT_FOUND if the word is empty", BoundaryTests::removeDownToEmpty);
        test("12: returns the length that it had", BoundaryTests::clearEmptyAndFull);
        test("13: 1 if the word has changed, 0 if it is a palindrome", BoundaryTests::reverseEmptyAndFull);
        test("14: morphism: 0 to 4", BoundaryTests::morphismRange);
        test("14: TOO_LONG if the image has more than 60 letters", BoundaryTests::imagesToSixty);
        test("14: the empty word and the words of one letter", BoundaryTests::smallestImages);
        test("15: morphism: 0 to 4", BoundaryTests::invertedMorphismRange);
        test("15: NOT_FOUND if the current word is not the image of a word", BoundaryTests::noOrigin);
        test("15: the empty word, the words of one letter and full ones", BoundaryTests::outermostOrigins);
    }

    private static void letterIsZeroOrOne() {
        for (String word : new String[] {"", "1", zeros(59), ones(60)}) {
            SturmianWords x = with(word);
            for (int letter : new int[] {-1, 2, '0', '1', MIN, MIN + 1, MAX - 1, MAX}) {
                due("append(" + letter + ") to " + word, x.append(letter), INVALID);
            }
            dueWord("the refused letters", x, word);
        }
        due("append(0)", new SturmianWords().append(0), 1);
        due("append(1)", new SturmianWords().append(1), 1);
    }

    private static void appendToSixty() {
        for (int letter = 0; letter <= 1; letter++) {
            SturmianWords x = with(zeros(58) + "1");
            due("append(" + letter + ") to 59 letters", x.append(letter), 60);
            due("append(0) to 60 letters", x.append(0), LONG);
            due("append(1) to 60 letters", x.append(1), LONG);
            dueWord("the refused letters", x, zeros(58) + "1" + letter);
            x.removeLast();
            due("append(1) when one letter is removed", x.append(1), 60);
        }
    }

    private static void removeDownToEmpty() {
        for (int letter = 0; letter <= 1; letter++) {
            SturmianWords x = with("" + letter);
            due("removeLast() of one letter", x.removeLast(), letter);
            due("length() then", x.length(), 0);
            due("removeLast() of the empty word", x.removeLast(), MISSING);
            due("historySize() then", x.historySize(), 2);
        }
        SturmianWords full = with("1" + zeros(58) + "1");
        due("removeLast() of 60 letters", full.removeLast(), 1);
        dueWord("removeLast() of 60 letters", full, "1" + zeros(58));
        for (int left = 58; left >= 0; left--) {
            due("removeLast() with " + left + " left", full.removeLast(), left == 0 ? 1 : 0);
            due("length() with " + left + " left", full.length(), left);
        }
        due("removeLast() of none", full.removeLast(), MISSING);
    }

    private static void clearEmptyAndFull() {
        for (int length : new int[] {0, 1, 59, 60}) {
            SturmianWords x = with(ones(length));
            due("clear() of " + length + " letters", x.clear(), length);
            due("length() then", x.length(), 0);
            due("weight() then", x.weight(), 0);
            due("append(0) then", x.append(0), 1);
            dueWord("clear() and append(0)", x, "0");
        }
    }

    private static void dueReversed(String word) {
        String turned = new StringBuilder(word).reverse().toString();
        SturmianWords x = with(word);
        due("reverse() of " + word, x.reverse(), turned.equals(word) ? 0 : 1);
        dueWord("reverse() of " + word, x, turned);
    }

    private static void reverseEmptyAndFull() {
        String[] words = {"", "0", "1", "00", "01", "10", "11", zeros(60), ones(60), "1" + zeros(58) + "1",
            "1" + zeros(59), zeros(59) + "1", zeros(29) + "11" + zeros(29), zeros(30) + ones(30),
            zeros(29) + "10" + zeros(29)};
        for (String word : words) {
            dueReversed(word);
        }
    }

    private static void morphismRange() {
        for (String word : new String[] {"", "01", zeros(60)}) {
            SturmianWords x = with(word);
            for (int morphism : new int[] {-1, 5, MIN, MIN + 1, MAX - 1, MAX}) {
                due("applyMorphism(" + morphism + ") to " + word, x.applyMorphism(morphism), INVALID);
            }
            dueWord("the refused morphisms", x, word);
        }
        due("applyMorphism(0) to 01", with("01").applyMorphism(0), 2);
        due("applyMorphism(4) to 01", with("01").applyMorphism(4), 3);
    }

    private static void dueImage(String word, int morphism, String zero, String one) {
        StringBuilder image = new StringBuilder();
        for (char letter : word.toCharArray()) {
            image.append(letter == '0' ? zero : one);
        }
        SturmianWords x = with(word);
        boolean fits = image.length() <= 60;
        String call = "applyMorphism(" + morphism + ") to " + word;
        due(call, x.applyMorphism(morphism), fits ? image.length() : LONG);
        dueWord(call, x, fits ? image.toString() : word);
    }

    /** Words whose images under the morphisms that lengthen a 0 or a 1 have from 59 to 120 letters. */
    private static void imagesToSixty() {
        int[][] counts = {{58, 1}, {59, 1}, {60, 0}, {59, 0}, {58, 2}, {0, 30}, {0, 31}, {1, 29}, {1, 30}, {20, 20},
            {21, 20}, {20, 21}, {30, 15}, {29, 16}, {0, 60}, {30, 30}};
        for (int[] count : counts) {
            String kept = "k".repeat(count[0]);
            String doubled = "d".repeat(count[1]);
            for (String word : new String[] {kept + doubled, doubled + kept}) {
                String zerosGrow = word.replace('d', '0').replace('k', '1');
                String onesGrow = word.replace('d', '1').replace('k', '0');
                dueImage(zerosGrow, 0, "1", "0");
                dueImage(zerosGrow, 1, "01", "0");
                dueImage(zerosGrow, 2, "10", "0");
                dueImage(onesGrow, 3, "0", "01");
                dueImage(onesGrow, 4, "0", "10");
            }
        }
    }

    private static void smallestImages() {
        for (String word : new String[] {"", "0", "1"}) {
            dueImage(word, 0, "1", "0");
            dueImage(word, 1, "01", "0");
            dueImage(word, 2, "10", "0");
            dueImage(word, 3, "0", "01");
            dueImage(word, 4, "0", "10");
        }
    }

    private static void invertedMorphismRange() {
        for (String word : new String[] {"", "0", "11", zeros(60)}) {
            SturmianWords x = with(word);
            for (int morphism : new int[] {-1, 5, MIN, MIN + 1, MAX - 1, MAX}) {
                due("invertMorphism(" + morphism + ") of " + word, x.invertMorphism(morphism), INVALID);
            }
            dueWord("the refused morphisms", x, word);
        }
        due("invertMorphism(0) of 01", with("01").invertMorphism(0), 2);
        due("invertMorphism(4) of 010", with("010").invertMorphism(4), 2);
    }

    private static void dueOrigin(String word, int morphism, String origin) {
        SturmianWords x = with(word);
        String call = "invertMorphism(" + morphism + ") of " + word;
        due(call, x.invertMorphism(morphism), origin == null ? MISSING : origin.length());
        dueWord(call, x, origin == null ? word : origin);
    }

    /** The letter that no image explains is the only one, the first, the last, or one in the middle. */
    private static void noOrigin() {
        for (String word : new String[] {"1", "10", "1" + zeros(59), "011", zeros(58) + "11", "0110", "01011"}) {
            dueOrigin(word, 1, null);
            dueOrigin(word, 3, null);
        }
        for (String word : new String[] {"1", "01", zeros(59) + "1", "110", "11" + zeros(58), "0110", "11010"}) {
            dueOrigin(word, 2, null);
            dueOrigin(word, 4, null);
        }
    }

    private static void outermostOrigins() {
        for (int morphism = 0; morphism <= 4; morphism++) {
            dueOrigin("", morphism, "");
        }
        dueOrigin("0", 0, "1");
        dueOrigin("1", 0, "0");
        dueOrigin("0", 1, "1");
        dueOrigin("0", 2, "1");
        dueOrigin("0", 3, "0");
        dueOrigin("0", 4, "0");
        dueOrigin("1" + zeros(59), 0, "0" + ones(59));
        dueOrigin(zeros(60), 1, ones(60));
        dueOrigin(zeros(60), 2, ones(60));
        dueOrigin(zeros(60), 3, zeros(60));
        dueOrigin(zeros(60), 4, zeros(60));
        dueOrigin("01".repeat(30), 1, zeros(30));
        dueOrigin("10".repeat(30), 2, zeros(30));
        dueOrigin("01".repeat(30), 3, ones(30));
        dueOrigin("10".repeat(30), 4, ones(30));
        dueOrigin(zeros(58) + "01", 1, ones(58) + "0");
        dueOrigin("10" + zeros(58), 2, "0" + ones(58));
        dueOrigin(zeros(58) + "01", 3, zeros(58) + "1");
        dueOrigin("10" + zeros(58), 4, "1" + zeros(58));
    }

    // ---- promises 16 and 31

    private static void undoneEdits() {
        test("16: NOT_FOUND if there is none", BoundaryTests::nothingToUndo);
        test("16: the last 6 edits can be undone", BoundaryTests::sixEdits);
        test("16: the latest edit that has not been undone", BoundaryTests::undosAndEditsInTurn);
        test("16: slope, intercept and current word are as they were", BoundaryTests::wholeStateComesBack);
        test("31: 0 to 6", BoundaryTests::historyRange);
        test("at most 512 calls", BoundaryTests::manyCalls);
    }

    private static void nothingToUndo() {
        SturmianWords x = new SturmianWords();
        due("undo() on a new object", x.undo(), MISSING);
        x.append(1);
        due("undo() of the only edit", x.undo(), 0);
        due("undo() again", x.undo(), MISSING);
        due("length() then", x.length(), 0);
        x.append(2);
        due("undo() behind a refused edit", x.undo(), MISSING);
        x.length();
        due("undo() behind a look at the word", x.undo(), MISSING);
    }

    /** All counts of edits from none to more than the ring holds twice over. */
    private static void sixEdits() {
        for (int edits = 0; edits <= 20; edits++) {
            SturmianWords x = with(zeros(edits));
            int kept = Math.min(edits, 6);
            for (int left = kept - 1; left >= 0; left--) {
                due("undo() of " + edits + " edits", x.undo(), left);
                due("length() with " + left + " left of " + edits, x.length(), edits - kept + left);
            }
            due("one undo() more than kept of " + edits, x.undo(), MISSING);
            due("length() then", x.length(), edits - kept);
            due("historySize() then", x.historySize(), 0);
        }
    }

    private static void undosAndEditsInTurn() {
        SturmianWords x = with(zeros(7));
        due("undo() of the seventh edit", x.undo(), 5);
        due("append(1) in its place", x.append(1), 7);
        due("historySize() then", x.historySize(), 6);
        for (int left = 5; left >= 0; left--) {
            due("undo()", x.undo(), left);
            dueWord("undo() with " + left + " left", x, zeros(left + 1));
        }
        due("the seventh undo()", x.undo(), MISSING);
        due("append(1) then", x.append(1), 2);
        due("undo() of it", x.undo(), 0);
        due("undo() once more", x.undo(), MISSING);
        dueWord("all of it", x, "0");
    }

    private static void wholeStateComesBack() {
        SturmianWords x = new SturmianWords();
        x.setIntercept(12);
        x.loadMechanical(60, true);
        x.setSlope(999, 1000);
        x.setIntercept(999);
        x.clear();
        x.setSlope(0, 1);
        due("undo() of setSlope", x.undo(), 5);
        due("slopeNumerator()", x.slopeNumerator(), 999);
        due("slopeDenominator()", x.slopeDenominator(), 1000);
        due("the lower letter 0 with intercept 999", x.mechanicalLetter(0, false), 1);
        due("undo() of clear", x.undo(), 4);
        due("length()", x.length(), 60);
        due("undo() of setIntercept", x.undo(), 3);
        due("the lower letter 0 with intercept 0", x.mechanicalLetter(0, false), 0);
        due("undo() of setSlope", x.undo(), 2);
        due("slopeDenominator()", x.slopeDenominator(), 13);
        due("undo() of loadMechanical", x.undo(), 1);
        due("length()", x.length(), 0);
        due("the intercept", x.setIntercept(0), 12);
    }

    private static void historyRange() {
        SturmianWords x = new SturmianWords();
        due("historySize() of a new object", x.historySize(), 0);
        for (int edits = 1; edits <= 13; edits++) {
            x.clear();
            due("historySize() after " + edits + " edits", x.historySize(), Math.min(edits, 6));
        }
        for (int left = 5; left >= 0; left--) {
            x.undo();
            due("historySize() with " + left + " left", x.historySize(), left);
        }
        x.undo();
        due("historySize() after a refused undo", x.historySize(), 0);
    }

    private static void manyCalls() {
        SturmianWords x = new SturmianWords();
        for (int call = 1; call <= 505; call++) {
            due("setIntercept in call " + call, x.setIntercept(call % 13), (call - 1) % 13);
        }
        for (int left = 5; left >= 0; left--) {
            due("undo() in call " + (511 - left), x.undo(), left);
        }
        due("undo() in call 512", x.undo(), MISSING);
    }

    // ---- promises 17 to 22

    private static void lettersAndFactors() {
        test("17: the current word has at most 60 letters, initially it is empty", BoundaryTests::lengthRange);
        test("18: the weight of a word is the number of its letters 1", BoundaryTests::weightRange);
        test("19: index: 0 or more", BoundaryTests::letterIndexFromZero);
        test("19: NOT_FOUND if the word has no such letter", BoundaryTests::letterIndexToTheLast);
        test("20: length: 0 or more", BoundaryTests::factorLengthFromZero);
        test("20: the number of factors (1 for length 0)", BoundaryTests::factorCountsOfOutermostLengths);
        test("20: factors that are equal as words are the same factor", BoundaryTests::equalFactors);
        test("21: length: 1 to 30", BoundaryTests::listedLengthRange);
        test("21: 0-based index in this list", BoundaryTests::listedIndexRange);
        test("21: NOT_FOUND if there is no such factor", BoundaryTests::noSuchFactor);
        test("21: read as a binary number", BoundaryTests::greatestFactor);
        test("22: weights that differ by 2 or more", BoundaryTests::differencesOfOneAndTwo);
        test("22: the least length", BoundaryTests::leastUnbalancedLength);
    }

    private static void lengthRange() {
        due("length() of a new object", new SturmianWords().length(), 0);
        for (int length : new int[] {0, 1, 59, 60}) {
            due("length() of zeros", with(zeros(length)).length(), length);
            due("length() of ones", with(ones(length)).length(), length);
        }
    }

    private static void weightRange() {
        for (int length : new int[] {0, 1, 59, 60}) {
            due("weight() of " + length + " zeros", with(zeros(length)).weight(), 0);
            due("weight() of " + length + " ones", with(ones(length)).weight(), length);
        }
        due("weight() with the first letter 1", with("1" + zeros(59)).weight(), 1);
        due("weight() with the last letter 1", with(zeros(59) + "1").weight(), 1);
    }

    private static void letterIndexFromZero() {
        for (String word : new String[] {"", "1", ones(60)}) {
            SturmianWords x = with(word);
            for (int index : new int[] {-1, -2, -60, MIN, MIN + 1}) {
                due("letterAt(" + index + ") of " + word, x.letterAt(index), INVALID);
            }
            due("letterAt(0) of " + word, x.letterAt(0), word.isEmpty() ? MISSING : 1);
        }
    }

    private static void letterIndexToTheLast() {
        for (int size : new int[] {1, 2, 31, 32, 33, 59, 60}) {
            SturmianWords zero = with(ones(size - 1) + "0");
            SturmianWords one = with(zeros(size - 1) + "1");
            due("the last of " + size + " letters", zero.letterAt(size - 1), 0);
            due("the last of " + size + " letters", one.letterAt(size - 1), 1);
            for (int index : new int[] {size, size + 1, 60, 61, 63, 64, MAX - 1, MAX}) {
                due("letterAt(" + index + ") of " + size + " letters", one.letterAt(index), MISSING);
            }
        }
        SturmianWords first = with("1" + zeros(59));
        due("the first of 60 letters", first.letterAt(0), 1);
        due("the second of 60 letters", first.letterAt(1), 0);
    }

    private static void factorLengthFromZero() {
        for (String word : new String[] {"", "1", "01", ones(60)}) {
            SturmianWords x = with(word);
            for (int length : new int[] {-1, -2, MIN, MIN + 1}) {
                due("factorCount(" + length + ") of " + word, x.factorCount(length), INVALID);
            }
            due("factorCount(0) of " + word, x.factorCount(0), 1);
        }
    }

    private static void factorCountsOfOutermostLengths() {
        for (int size : new int[] {0, 1, 2, 59, 60}) {
            SturmianWords x = with(zeros(size));
            for (int length = 0; length <= 66; length++) {
                due("factorCount(" + length + ") of " + size + " zeros", x.factorCount(length), length <= size ? 1 : 0);
            }
            due("factorCount(MAX - 1) of " + size + " zeros", x.factorCount(MAX - 1), 0);
            due("factorCount(MAX) of " + size + " zeros", x.factorCount(MAX), 0);
        }
    }

    private static void equalFactors() {
        // The one in the middle tells the factors of 30 letters apart, the zeros around it do not.
        SturmianWords x = with(zeros(30) + "1" + zeros(29));
        due("factorCount(30) where all 31 differ", x.factorCount(30), 31);
        due("factorCount(31) where all 30 differ", x.factorCount(31), 30);
        due("factorCount(29) where 2 are equal", x.factorCount(29), 30);
        due("factorCount(1) where 59 are equal", x.factorCount(1), 2);
        SturmianWords ends = with("01" + zeros(56) + "01");
        due("factorCount(2) where the first is the last", ends.factorCount(2), 3);
    }

    private static void listedLengthRange() {
        for (String word : new String[] {"", "1", ones(29), ones(30), ones(31), ones(60)}) {
            SturmianWords x = with(word);
            for (int length : new int[] {0, -1, 31, 32, 60, 61, MIN, MIN + 1, MAX - 1, MAX}) {
                due("factorAt(" + length + ", 0) of " + word, x.factorAt(length, 0), INVALID);
                due("factorAt(" + length + ", MAX) of " + word, x.factorAt(length, MAX), INVALID);
            }
            due("factorAt(1, 0) of " + word, x.factorAt(1, 0), word.isEmpty() ? MISSING : 1);
            due("factorAt(30, 0) of " + word, x.factorAt(30, 0), word.length() < 30 ? MISSING : (1 << 30) - 1);
        }
    }

    private static void listedIndexRange() {
        SturmianWords x = with(zeros(30) + "1" + zeros(29));
        for (int length : new int[] {0, 1, 30, 31}) {
            for (int index : new int[] {-1, -2, MIN, MIN + 1}) {
                due("factorAt(" + length + ", " + index + ")", x.factorAt(length, index), INVALID);
            }
        }
        due("factorAt(30, 0)", x.factorAt(30, 0), 0);
        for (int index = 1; index <= 30; index++) {
            due("factorAt(30, " + index + ")", x.factorAt(30, index), 1 << index - 1);
        }
    }

    private static void noSuchFactor() {
        SturmianWords x = with(zeros(30) + "1" + zeros(29));
        for (int index : new int[] {31, 32, 59, 60, 61, MAX - 1, MAX}) {
            due("factorAt(30, " + index + ")", x.factorAt(30, index), MISSING);
        }
        due("factorAt(1, 1)", x.factorAt(1, 1), 1);
        due("factorAt(1, 2)", x.factorAt(1, 2), MISSING);
        SturmianWords empty = new SturmianWords();
        due("factorAt(1, 0) of the empty word", empty.factorAt(1, 0), MISSING);
        due("factorAt(30, MAX) of the empty word", empty.factorAt(30, MAX), MISSING);
        SturmianWords two = with("10");
        due("factorAt(2, 0) of 10", two.factorAt(2, 0), 2);
        due("factorAt(2, 1) of 10", two.factorAt(2, 1), MISSING);
        due("factorAt(3, 0) of 10", two.factorAt(3, 0), MISSING);
    }

    private static void greatestFactor() {
        SturmianWords x = with(ones(60));
        due("factorAt(1, 0) of 60 ones", x.factorAt(1, 0), 1);
        due("factorAt(29, 0) of 60 ones", x.factorAt(29, 0), 536870911);
        due("factorAt(30, 0) of 60 ones", x.factorAt(30, 0), 1073741823);
        due("factorAt(30, 0) of 60 zeros", with(zeros(60)).factorAt(30, 0), 0);
        due("factorAt(30, 0) of the first letter 1", with("1" + zeros(29)).factorAt(30, 0), 536870912);
        due("factorAt(30, 0) of the last letter 1", with(zeros(29) + "1").factorAt(30, 0), 1);
    }

    private static void differencesOfOneAndTwo() {
        due("unbalancedLength() of the empty word", new SturmianWords().unbalancedLength(), MISSING);
        String[] balanced = {"0", "1", "00", "01", "10", "11", "001", "110", "010", zeros(60), ones(60),
            zeros(59) + "1", "1" + zeros(59), "0" + ones(59), "01".repeat(30), zeros(29) + "1" + zeros(30)};
        for (String word : balanced) {
            due("unbalancedLength() of " + word, with(word).unbalancedLength(), MISSING);
        }
        String[] unbalanced = {"0011", "1100", "00011", zeros(58) + "11", "11" + zeros(58), "00" + ones(58),
            ones(58) + "00"};
        for (String word : unbalanced) {
            due("unbalancedLength() of " + word, with(word).unbalancedLength(), 2);
        }
    }

    /** Ones that stand k letters apart weigh 2 in k + 1 letters; k + 1 zeros in a row weigh 0, k zeros do not do. */
    private static void leastUnbalancedLength() {
        for (int apart = 1; apart <= 29; apart++) {
            String near = "1" + zeros(apart - 1) + "1";
            int length = apart + 1;
            due("unbalancedLength() with " + length + " zeros", with(zeros(length) + near).unbalancedLength(), length);
            due("unbalancedLength() backwards", with(near + zeros(length)).unbalancedLength(), length);
            due("unbalancedLength() with " + apart + " zeros", with(zeros(apart) + near).unbalancedLength(), MISSING);
        }
    }

    // ---- promises 23 to 26

    private static void palindromesAndPeriods() {
        test("23: 1 or more, the empty one included", BoundaryTests::palindromeCounts);
        test("24: 0 for the empty word", BoundaryTests::palindromicPrefixes);
        test("25: NOT_FOUND if it is empty", BoundaryTests::noPeriod);
        test("25: 1 <= t <= n, n itself is a period of each non-empty word", BoundaryTests::leastAndGreatestPeriod);
        test("26: the empty word is central", BoundaryTests::smallestCentralWords);
        test("26: each integer greater than n counts as a period", BoundaryTests::periodsAboveTheLength);
        test("26: two coprime periods with t + u = n + 2", BoundaryTests::fullCentralWords);
    }

    private static void palindromeCounts() {
        due("palindromeCount() of the empty word", new SturmianWords().palindromeCount(), 1);
        for (int size : new int[] {1, 2, 59, 60}) {
            due("palindromeCount() of " + size + " zeros", with(zeros(size)).palindromeCount(), size + 1);
            due("palindromeCount() of " + size + " ones", with(ones(size)).palindromeCount(), size + 1);
        }
        due("palindromeCount() of 01", with("01").palindromeCount(), 3);
        due("palindromeCount() of 59 zeros and a one", with(zeros(59) + "1").palindromeCount(), 61);
        // In any longer repetition of this word there are no more palindromes than these:
        // "", 0, 1, 00, 11, 010, 101, 0110, 1001.
        due("palindromeCount() of 10 times 001011", with("001011".repeat(10)).palindromeCount(), 9);
    }

    private static void palindromicPrefixes() {
        due("longestPalindromicPrefix() of the empty word", new SturmianWords().longestPalindromicPrefix(), 0);
        for (int size : new int[] {1, 2, 59, 60}) {
            due("the prefix of " + size + " zeros", with(zeros(size)).longestPalindromicPrefix(), size);
            due("the prefix of " + size + " ones", with(ones(size)).longestPalindromicPrefix(), size);
        }
        due("the prefix of 01", with("01").longestPalindromicPrefix(), 1);
        due("the prefix of 10", with("10").longestPalindromicPrefix(), 1);
        due("the prefix of 1 and 59 zeros", with("1" + zeros(59)).longestPalindromicPrefix(), 1);
        due("the prefix of 59 zeros and 1", with(zeros(59) + "1").longestPalindromicPrefix(), 59);
        due("the prefix of 1, 58 zeros, 1", with("1" + zeros(58) + "1").longestPalindromicPrefix(), 60);
        due("a palindrome that is no prefix", with("0" + ones(59)).longestPalindromicPrefix(), 1);
    }

    private static void noPeriod() {
        due("leastPeriod() of a new object", new SturmianWords().leastPeriod(), MISSING);
        SturmianWords x = with("1");
        due("leastPeriod() of one letter", x.leastPeriod(), 1);
        x.removeLast();
        due("leastPeriod() when it is removed", x.leastPeriod(), MISSING);
    }

    private static void leastAndGreatestPeriod() {
        for (int size : new int[] {1, 2, 3, 59, 60}) {
            due("leastPeriod() of " + size + " zeros", with(zeros(size)).leastPeriod(), 1);
            due("leastPeriod() of " + size + " ones", with(ones(size)).leastPeriod(), 1);
            due("leastPeriod() of zeros and a 1", with(zeros(size - 1) + "1").leastPeriod(), size);
            due("leastPeriod() of a 1 and zeros", with("1" + zeros(size - 1)).leastPeriod(), size);
        }
        for (int t = 2; t <= 60; t++) {
            String word = ("1" + zeros(t - 1)).repeat(30).substring(0, 60);
            due("leastPeriod() of a 1 in " + t + " letters", with(word).leastPeriod(), t);
        }
    }

    private static void smallestCentralWords() {
        due("isCentral() of a new object", new SturmianWords().isCentral(), 1);
        for (String word : new String[] {"", "0", "1", "00", "11", "010", "101"}) {
            due("isCentral() of " + word, with(word).isCentral(), 1);
        }
        for (String word : new String[] {"01", "10", "001", "011", "100", "110"}) {
            due("isCentral() of " + word, with(word).isCentral(), 0);
        }
    }

    private static void periodsAboveTheLength() {
        // Of all words with 1 letter or more only the powers of a letter need the period n + 1, beside 1.
        for (int size = 1; size <= 60; size++) {
            due("isCentral() of " + size + " zeros", with(zeros(size)).isCentral(), 1);
            due("isCentral() of " + size + " ones", with(ones(size)).isCentral(), 1);
        }
        for (int size = 2; size <= 60; size++) {
            due("isCentral() of zeros and a 1", with(zeros(size - 1) + "1").isCentral(), 0);
        }
    }

    /** The word of 60 letters with the periods t and u that begins with a 1, all other letters 0 if they may be. */
    private static String withPeriods(int t, int u) {
        boolean[] one = new boolean[60];
        one[0] = true;
        for (int round = 0; round < 60; round++) {
            for (int i = 0; i < 60; i++) {
                boolean left = i >= t && one[i - t] || i >= u && one[i - u];
                boolean right = i + t < 60 && one[i + t] || i + u < 60 && one[i + u];
                one[i] = one[i] || left || right;
            }
        }
        StringBuilder word = new StringBuilder();
        for (boolean letter : one) {
            word.append(letter ? '1' : '0');
        }
        return word.toString();
    }

    private static void fullCentralWords() {
        for (int t = 2; t <= 31; t++) {
            String word = withPeriods(t, 62 - t);
            boolean central = commonDivisor(t, 62 - t) == 1;
            due("isCentral() with the periods " + t + ", " + (62 - t), with(word).isCentral(), central ? 1 : 0);
        }
        // These have coprime periods, too, but with t + u = n + 3 and t + u = n + 1.
        due("isCentral() of 0100", with("0100").isCentral(), 0);
        due("isCentral() of 01001001", with("01001001").isCentral(), 0);
        due("isCentral() of 001001", with("001001").isCentral(), 0);
        due("isCentral() of 0101", with("0101").isCentral(), 0);
    }

    // ---- promise 27

    private static void simplestSlopes() {
        test("27: part: 0, 1 or 2", BoundaryTests::partRange);
        test("27: the empty word and the words of one letter", BoundaryTests::slopesOfSmallestWords);
        test("27: 0 <= a <= b and b <= 61", BoundaryTests::slopesOfFullWords);
        test("27: 0 <= d < b, the least such d", BoundaryTests::outermostIntercepts);
        test("27: the least b, and of several of these the least a", BoundaryTests::leastFractions);
        test("27: NOT_FOUND if there is no such fraction", BoundaryTests::noSlope);
    }

    private static void dueSlope(SturmianWords x, String word, int a, int b, int d) {
        due("simplestSlope(0) of " + word, x.simplestSlope(0), a);
        due("simplestSlope(1) of " + word, x.simplestSlope(1), b);
        due("simplestSlope(2) of " + word, x.simplestSlope(2), d);
    }

    private static void dueSlope(String word, int a, int b, int d) {
        dueSlope(with(word), word, a, b, d);
    }

    private static void partRange() {
        for (String word : new String[] {"", "001", "0011", ones(60)}) {
            SturmianWords x = with(word);
            for (int part : new int[] {-1, 3, MIN, MIN + 1, MAX - 1, MAX}) {
                due("simplestSlope(" + part + ") of " + word, x.simplestSlope(part), INVALID);
            }
        }
        dueSlope("001", 1, 3, 0);
    }

    private static void slopesOfSmallestWords() {
        dueSlope(new SturmianWords(), "a new object", 0, 1, 0);
        dueSlope("0", 0, 1, 0);
        dueSlope("1", 1, 1, 0);
        dueSlope("00", 0, 1, 0);
        dueSlope("01", 1, 2, 0);
        dueSlope("10", 1, 2, 1);
        dueSlope("11", 1, 1, 0);
    }

    /** No word of up to 60 letters has a simplest slope with more than 60 below, so 61 itself is never the answer. */
    private static void slopesOfFullWords() {
        dueSlope(zeros(60), 0, 1, 0);
        dueSlope(ones(60), 1, 1, 0);
        dueSlope(zeros(59) + "1", 1, 60, 0);
        dueSlope(ones(59) + "0", 59, 60, 59);
        dueSlope(zeros(58) + "1", 1, 59, 0);
        dueSlope("01".repeat(30), 1, 2, 0);
        for (int b = 59; b <= 61; b++) {
            for (int a = 1; a < b; a++) {
                if (commonDivisor(a, b) == 1) {
                    dueSlopeOfItsWord(a, b);
                }
            }
        }
    }

    /** The word of a slope a / b: its simplest slope lies at most as high and makes the same word again. */
    private static void dueSlopeOfItsWord(int a, int b) {
        SturmianWords x = sloped(a, b);
        x.setIntercept(a * 7 % b);
        x.loadMechanical(60, false);
        int below = x.simplestSlope(1);
        String of = " of the word of " + a + " / " + b;
        due("simplestSlope(1) up to 60" + of, below >= 1 && below <= Math.min(b, 60) ? 1 : 0, 1);
        SturmianWords y = sloped(x.simplestSlope(0), below);
        y.setIntercept(x.simplestSlope(2));
        y.loadMechanical(60, false);
        for (int i = 0; i < 60; i++) {
            due("letter " + i + of, y.letterAt(i), x.letterAt(i));
        }
    }

    /** As b is never above the word's length, b rotations differ within the word and only one d is left. */
    private static void outermostIntercepts() {
        dueSlope(zeros(59) + "1", 1, 60, 0);
        dueSlope("1" + zeros(59), 1, 60, 59);
        dueSlope("0" + ones(59), 59, 60, 0);
        dueSlope(ones(59) + "0", 59, 60, 59);
        dueSlope("001", 1, 3, 0);
        dueSlope("0100", 1, 3, 1);
        dueSlope("100", 1, 3, 2);
        dueSlope("01011", 3, 5, 0);
        dueSlope("11010", 3, 5, 4);
    }

    private static void leastFractions() {
        // 0 / 1 and 1 / 1 both begin with the empty word. No other word has two fractions with the same least b:
        // between a / b and (a + 1) / b there lies one with less than b below.
        dueSlope("", 0, 1, 0);
        // 1 / 3 and 2 / 3 begin with 0, too, but not with the least b.
        dueSlope("0", 0, 1, 0);
        // 1 / 4 with intercept 2 begins with 010, too.
        dueSlope("010", 1, 2, 0);
        // 2 / 5 with intercept 3 begins with 100, too.
        dueSlope("100", 1, 3, 2);
        // 1 / 5 with intercept 1 begins with 0001, too.
        dueSlope("0001", 1, 4, 0);
    }

    private static void noSlope() {
        String[] words = {"0011", "1100", zeros(58) + "11", "11" + zeros(58), zeros(30) + "1" + zeros(28) + "1"};
        for (String word : words) {
            dueSlope(word, MISSING, MISSING, MISSING);
        }
        dueSlope("001", 1, 3, 0);
        // One zero less, and the word is balanced: its ones stand where 2 / 59 reaches 1 and 2.
        dueSlope(zeros(29) + "1" + zeros(28) + "1", 2, 59, 0);
    }

    // ---- promises 28 to 30

    private static final int[] WRONG_COUNTS = {0, -1, 1001, 1002, MIN, MIN + 1, MAX - 1, MAX};

    private static void gaps() {
        test("28: m: 1 to 1000", BoundaryTests::countRangeOfSizes);
        test("28: if there is only one point, the only gap is q", BoundaryTests::onePoint);
        test("28: equal points are counted once", BoundaryTests::equalPoints);
        test("28: from each point to the next point on the circle", BoundaryTests::gapAcrossZero);
        test("29: m: 1 to 1000", BoundaryTests::countRangeOfListedSizes);
        test("29: 0-based index in this list", BoundaryTests::sizeIndexFromZero);
        test("29: NOT_FOUND if there is no such gap size", BoundaryTests::sizeIndexToTheLast);
        test("30: m: 1 to 1000", BoundaryTests::countRangeOfGaps);
        test("30: size: 1 or more", BoundaryTests::sizeFromOne);
        test("30: 0 if there is none", BoundaryTests::noGapOfSize);
    }

    private static void countRangeOfSizes() {
        int[][] slopes = {{0, 1}, {1, 1}, {5, 13}, {1, 1000}, {999, 1000}};
        for (int[] slope : slopes) {
            SturmianWords x = sloped(slope[0], slope[1]);
            for (int m : WRONG_COUNTS) {
                due("gapSizeCount(" + m + ") of " + slope[0] + " / " + slope[1], x.gapSizeCount(m), INVALID);
            }
            due("gapSizeCount(1) of " + slope[0] + " / " + slope[1], x.gapSizeCount(1), 1);
            due("gapSizeCount(1000) of " + slope[0] + " / " + slope[1], x.gapSizeCount(1000), 1);
        }
        SturmianWords x = sloped(499, 1000);
        due("gapSizeCount(999) of 499 / 1000", x.gapSizeCount(999), 2);
        due("gapSizeCount(1000) of 499 / 1000", x.gapSizeCount(1000), 1);
    }

    private static void onePoint() {
        int[][] slopes = {{0, 1}, {1, 1}, {1, 2}, {5, 13}, {1, 1000}, {999, 1000}};
        for (int[] slope : slopes) {
            SturmianWords x = sloped(slope[0], slope[1]);
            due("gapSizeCount(1)", x.gapSizeCount(1), 1);
            due("gapSize(1, 0)", x.gapSize(1, 0), slope[1]);
            due("gapSize(1, 1)", x.gapSize(1, 1), MISSING);
            due("gapsOfSize(1, q)", x.gapsOfSize(1, slope[1]), 1);
        }
        for (int p = 0; p <= 1; p++) {
            SturmianWords x = sloped(p, 1);
            for (int m : new int[] {2, 3, 999, 1000}) {
                due("gapSize(" + m + ", 0) over 1", x.gapSize(m, 0), 1);
                due("gapsOfSize(" + m + ", 1) over 1", x.gapsOfSize(m, 1), 1);
            }
        }
    }

    private static void equalPoints() {
        SturmianWords x = new SturmianWords();
        due("gapsOfSize(12, 1) of 5 / 13", x.gapsOfSize(12, 1), 11);
        due("gapsOfSize(12, 2) of 5 / 13", x.gapsOfSize(12, 2), 1);
        for (int m : new int[] {13, 14, 26, 1000}) {
            due("gapSizeCount(" + m + ") of 5 / 13", x.gapSizeCount(m), 1);
            due("gapsOfSize(" + m + ", 1) of 5 / 13", x.gapsOfSize(m, 1), 13);
        }
        x.setSlope(998, 999);
        due("gapsOfSize(998, 1) of 998 / 999", x.gapsOfSize(998, 1), 997);
        due("gapsOfSize(998, 2) of 998 / 999", x.gapsOfSize(998, 2), 1);
        due("gapsOfSize(999, 1) of 998 / 999", x.gapsOfSize(999, 1), 999);
        due("gapsOfSize(1000, 1) of 998 / 999", x.gapsOfSize(1000, 1), 999);
    }

    private static void gapAcrossZero() {
        SturmianWords x = sloped(1, 1000);
        for (int m : new int[] {2, 3, 499, 998, 999}) {
            due("gapSizeCount(" + m + ") of 1 / 1000", x.gapSizeCount(m), 2);
            due("gapsOfSize(" + m + ", 1) of 1 / 1000", x.gapsOfSize(m, 1), m - 1);
            due("gapSize(" + m + ", 1) of 1 / 1000", x.gapSize(m, 1), 1001 - m);
            due("gapsOfSize(" + m + ", 1001 - m) of 1 / 1000", x.gapsOfSize(m, 1001 - m), 1);
        }
        x.setSlope(999, 1000);
        due("gapSize(2, 0) of 999 / 1000", x.gapSize(2, 0), 1);
        due("gapSize(2, 1) of 999 / 1000", x.gapSize(2, 1), 999);
        x.setSlope(1, 2);
        due("gapsOfSize(2, 1) of 1 / 2", x.gapsOfSize(2, 1), 2);
    }

    private static void countRangeOfListedSizes() {
        SturmianWords x = sloped(1, 1000);
        for (int m : WRONG_COUNTS) {
            for (int index : new int[] {0, 1, -1, MIN, MAX}) {
                due("gapSize(" + m + ", " + index + ")", x.gapSize(m, index), INVALID);
            }
        }
        due("gapSize(1, 0)", x.gapSize(1, 0), 1000);
        due("gapSize(999, 1)", x.gapSize(999, 1), 2);
        due("gapSize(1000, 0)", x.gapSize(1000, 0), 1);
        due("gapSize(1000, 1)", x.gapSize(1000, 1), MISSING);
    }

    private static void sizeIndexFromZero() {
        SturmianWords x = new SturmianWords();
        for (int m : new int[] {1, 4, 1000}) {
            for (int index : new int[] {-1, -2, MIN, MIN + 1}) {
                due("gapSize(" + m + ", " + index + ")", x.gapSize(m, index), INVALID);
            }
        }
        due("gapSize(4, 0)", x.gapSize(4, 0), 2);
    }

    private static void sizeIndexToTheLast() {
        SturmianWords x = new SturmianWords();
        int[][] last = {{1, 0, 13}, {2, 1, 8}, {4, 2, 5}, {13, 0, 1}, {1000, 0, 1}};
        for (int[] row : last) {
            due("gapSize(" + row[0] + ", " + row[1] + ")", x.gapSize(row[0], row[1]), row[2]);
            for (int index : new int[] {row[1] + 1, row[1] + 2, 999, 1000, 1001, MAX - 1, MAX}) {
                due("gapSize(" + row[0] + ", " + index + ")", x.gapSize(row[0], index), MISSING);
            }
        }
    }

    private static void countRangeOfGaps() {
        SturmianWords x = sloped(1, 1000);
        for (int m : WRONG_COUNTS) {
            for (int size : new int[] {1, 1000, 0, -1, MIN, MAX}) {
                due("gapsOfSize(" + m + ", " + size + ")", x.gapsOfSize(m, size), INVALID);
            }
        }
        due("gapsOfSize(1, 1000)", x.gapsOfSize(1, 1000), 1);
        due("gapsOfSize(1000, 1)", x.gapsOfSize(1000, 1), 1000);
    }

    private static void sizeFromOne() {
        SturmianWords x = new SturmianWords();
        for (int m : new int[] {1, 13, 1000}) {
            for (int size : new int[] {0, -1, MIN, MIN + 1}) {
                due("gapsOfSize(" + m + ", " + size + ")", x.gapsOfSize(m, size), INVALID);
            }
        }
        due("gapsOfSize(13, 1)", x.gapsOfSize(13, 1), 13);
    }

    private static void noGapOfSize() {
        SturmianWords x = new SturmianWords();
        due("gapsOfSize(1, 1)", x.gapsOfSize(1, 1), 0);
        due("gapsOfSize(1, 12)", x.gapsOfSize(1, 12), 0);
        due("gapsOfSize(1, 13)", x.gapsOfSize(1, 13), 1);
        x.setSlope(1, 1000);
        due("gapsOfSize(1, 999)", x.gapsOfSize(1, 999), 0);
        due("gapsOfSize(1, 1000)", x.gapsOfSize(1, 1000), 1);
        for (int m : new int[] {1, 2, 999, 1000}) {
            for (int size : new int[] {1001, 1002, MAX - 1, MAX}) {
                due("gapsOfSize(" + m + ", " + size + ")", x.gapsOfSize(m, size), 0);
            }
        }
    }
}
