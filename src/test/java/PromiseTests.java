/** At least one method for each promise of the document and for each of its examples. */
public final class PromiseTests {
    private static final int MIN = Integer.MIN_VALUE;
    private static final int MAX = Integer.MAX_VALUE;
    private static final int INVALID = -1;
    private static final int LONG = -2;
    private static final int MISSING = -3;

    private static int wrong = 0;

    private static void due(String what, int got, int want) {
        if (got != want) {
            wrong++;
            System.out.println(what + " answered " + got + ", due is " + want);
        }
    }

    /** A new object whose current word is given; the history is full or as long as the word. */
    private static SturmianWords with(String word) {
        SturmianWords x = new SturmianWords();
        for (int i = 0; i < word.length(); i++) {
            x.append(word.charAt(i) - '0');
        }
        return x;
    }

    private static SturmianWords sloped(int p, int q) {
        SturmianWords x = new SturmianWords();
        x.setSlope(p, q);
        return x;
    }

    private static String wordOf(SturmianWords x) {
        StringBuilder letters = new StringBuilder();
        for (int i = 0; i < x.length(); i++) {
            letters.append(x.letterAt(i));
        }
        return letters.toString();
    }

    private static void dueWord(String what, SturmianWords x, String want) {
        String got = wordOf(x);
        if (!got.equals(want)) {
            wrong++;
            System.out.println(what + " left the word " + got + ", due is " + want);
        }
    }

    public static void main(String[] args) {
        constants();
        examples();
        newObject1();
        setSlope2();
        setIntercept3();
        slopeNumerator4();
        slopeDenominator5();
        continuedFractionTerm6();
        mechanicalLetter7();
        loadMechanical8();
        loadStandard9();
        append10();
        removeLast11();
        clear12();
        reverse13();
        applyMorphism14();
        invertMorphism15();
        undo16();
        length17();
        weight18();
        letterAt19();
        factorCount20();
        factorAt21();
        unbalancedLength22();
        palindromeCount23();
        longestPalindromicPrefix24();
        leastPeriod25();
        isCentral26();
        simplestSlope27();
        gapSizeCount28();
        gapSize29();
        gapsOfSize30();
        historySize31();
        System.out.println(wrong == 0 ? "all promises hold" : wrong + " answers are not as due");
        if (wrong != 0) {
            System.exit(1);
        }
    }

    private static void constants() {
        due("INVALID_ARGUMENT", SturmianWords.INVALID_ARGUMENT, -1);
        due("TOO_LONG", SturmianWords.TOO_LONG, -2);
        due("NOT_FOUND", SturmianWords.NOT_FOUND, -3);
    }

    private static void examples() {
        SturmianWords x = new SturmianWords();
        due("example 1: continuedFractionTerm(1)", x.continuedFractionTerm(1), 2);
        due("example 1: continuedFractionTerm(2)", x.continuedFractionTerm(2), 1);
        due("example 1: loadMechanical(8, false)", x.loadMechanical(8, false), 3);
        due("example 1: letterAt(2)", x.letterAt(2), 1);
        due("example 1: weight()", x.weight(), 3);
        due("example 1: factorCount(3)", x.factorCount(3), 4);
        due("example 1: unbalancedLength()", x.unbalancedLength(), -3);
        x = new SturmianWords();
        due("example 2: loadStandard(3)", x.loadStandard(3), 5);
        due("example 2: length()", x.length(), 5);
        due("example 2: leastPeriod()", x.leastPeriod(), 3);
        due("example 2: isCentral()", x.isCentral(), 0);
        due("example 2: removeLast()", x.removeLast(), 1);
        due("example 2: removeLast()", x.removeLast(), 0);
        due("example 2: isCentral()", x.isCentral(), 1);
        x = new SturmianWords();
        due("example 3: append(0)", x.append(0), 1);
        due("example 3: append(0)", x.append(0), 2);
        due("example 3: append(1)", x.append(1), 3);
        due("example 3: append(1)", x.append(1), 4);
        due("example 3: unbalancedLength()", x.unbalancedLength(), 2);
        due("example 3: simplestSlope(0)", x.simplestSlope(0), -3);
        due("example 3: applyMorphism(1)", x.applyMorphism(1), 6);
        due("example 3: invertMorphism(3)", x.invertMorphism(3), 4);
        due("example 3: invertMorphism(1)", x.invertMorphism(1), -3);
        due("example 3: length()", x.length(), 4);
        x = new SturmianWords();
        due("example 4: gapSizeCount(4)", x.gapSizeCount(4), 3);
        due("example 4: gapSize(4, 0)", x.gapSize(4, 0), 2);
        due("example 4: gapSize(4, 1)", x.gapSize(4, 1), 3);
        due("example 4: gapsOfSize(4, 3)", x.gapsOfSize(4, 3), 2);
        due("example 4: gapSize(4, 3)", x.gapSize(4, 3), -3);
        due("example 4: setSlope(5, 3)", x.setSlope(5, 3), -1);
    }

    private static void newObject1() {
        SturmianWords x = new SturmianWords();
        due("1: the new slope's numerator", x.slopeNumerator(), 5);
        due("1: the new slope's denominator", x.slopeDenominator(), 13);
        due("1: the new length", x.length(), 0);
        due("1: the new history", x.historySize(), 0);
        due("1: undo on a new object", x.undo(), MISSING);
        due("1: the new intercept", x.setIntercept(0), 0);
        new SturmianWords().append(1);
        due("1: another object's edits are not this one's", x.length(), 0);
    }

    private static void setSlope2() {
        SturmianWords x = new SturmianWords();
        int[][] wrongs = {{-1, 5}, {6, 5}, {0, 0}, {1, 0}, {0, -1}, {-1, -1}, {1, 1001}, {1001, 1001},
            {MIN, 5}, {MAX, 5}, {1, MIN}, {1, MAX}, {MIN, MIN}, {MAX, MAX}};
        for (int[] pair : wrongs) {
            due("2: setSlope(" + pair[0] + ", " + pair[1] + ")", x.setSlope(pair[0], pair[1]), INVALID);
        }
        due("2: an error is no edit", x.historySize(), 0);
        due("2: an error keeps the numerator", x.slopeNumerator(), 5);
        due("2: an error keeps the denominator", x.slopeDenominator(), 13);
        int[][] rights = {{0, 1, 0, 1}, {0, 1000, 0, 1}, {1000, 1000, 1, 1}, {1, 1, 1, 1}, {6, 8, 3, 4},
            {999, 1000, 999, 1000}, {1, 1000, 1, 1000}, {377, 610, 377, 610}, {500, 1000, 1, 2}, {3, 7, 3, 7}};
        for (int[] row : rights) {
            due("2: setSlope(" + row[0] + ", " + row[1] + ")", x.setSlope(row[0], row[1]), row[3]);
            due("2: numerator of " + row[0] + " / " + row[1], x.slopeNumerator(), row[2]);
            due("2: denominator of " + row[0] + " / " + row[1], x.slopeDenominator(), row[3]);
        }
        x.setIntercept(4);
        x.append(1);
        x.setSlope(3, 7);
        due("2: setSlope sets the intercept to 0", x.setIntercept(1), 0);
        due("2: setSlope keeps the word", x.length(), 1);
    }

    private static void setIntercept3() {
        SturmianWords x = new SturmianWords();
        due("3: setIntercept(13)", x.setIntercept(13), INVALID);
        due("3: setIntercept(-1)", x.setIntercept(-1), INVALID);
        due("3: setIntercept(MIN)", x.setIntercept(MIN), INVALID);
        due("3: setIntercept(MAX)", x.setIntercept(MAX), INVALID);
        due("3: an error is no edit", x.historySize(), 0);
        due("3: setIntercept(12)", x.setIntercept(12), 0);
        due("3: the letter moves with the intercept", x.mechanicalLetter(0, false), 1);
        due("3: setIntercept(7)", x.setIntercept(7), 12);
        due("3: setIntercept(7) again", x.setIntercept(7), 7);
        due("3: each is an edit", x.historySize(), 3);
        due("3: the slope stays", x.slopeNumerator() * 100 + x.slopeDenominator(), 513);
        x.setSlope(1, 1);
        due("3: setIntercept(1) over 1", x.setIntercept(1), INVALID);
        due("3: setIntercept(0) over 1", x.setIntercept(0), 0);
        x.setSlope(6, 8);
        due("3: the bound is the denominator in lowest terms", x.setIntercept(4), INVALID);
        due("3: setIntercept(3) over 4", x.setIntercept(3), 0);
    }

    private static void slopeNumerator4() {
        SturmianWords x = sloped(355, 1000);
        due("4: slopeNumerator() of 355 / 1000", x.slopeNumerator(), 71);
        x.setSlope(0, 9);
        due("4: slopeNumerator() of 0 / 9", x.slopeNumerator(), 0);
        due("4: it is no edit", x.historySize(), 2);
    }

    private static void slopeDenominator5() {
        SturmianWords x = sloped(355, 1000);
        due("5: slopeDenominator() of 355 / 1000", x.slopeDenominator(), 200);
        x.setSlope(0, 9);
        due("5: slopeDenominator() of 0 / 9", x.slopeDenominator(), 1);
        due("5: it is no edit", x.historySize(), 2);
    }

    private static void dueTerms(int p, int q, int... terms) {
        SturmianWords x = sloped(p, q);
        String slope = p + " / " + q;
        for (int i = 0; i < terms.length; i++) {
            due("6: term " + (i + 1) + " of " + slope, x.continuedFractionTerm(i + 1), terms[i]);
        }
        due("6: the term behind the last of " + slope, x.continuedFractionTerm(terms.length + 1), MISSING);
        due("6: term MAX of " + slope, x.continuedFractionTerm(MAX), MISSING);
        due("6: term 0 of " + slope, x.continuedFractionTerm(0), INVALID);
        due("6: term -1 of " + slope, x.continuedFractionTerm(-1), INVALID);
        due("6: term MIN of " + slope, x.continuedFractionTerm(MIN), INVALID);
    }

    private static void continuedFractionTerm6() {
        dueTerms(5, 13, 2, 1, 1, 2);
        dueTerms(0, 1);
        dueTerms(1, 1, 1);
        dueTerms(1, 2, 2);
        dueTerms(1, 1000, 1000);
        dueTerms(999, 1000, 1, 999);
        dueTerms(355, 1000, 2, 1, 4, 2, 6);
        dueTerms(610, 987, 1, 1, 1, 1, 1, 1, 1, 1, 1, 1, 1, 1, 1, 2);
    }

    private static void mechanicalLetter7() {
        SturmianWords x = sloped(2, 5);
        String lower = "00101";
        String upper = "10100";
        for (int n = 0; n < 10; n++) {
            due("7: lower letter " + n + " of 2 / 5", x.mechanicalLetter(n, false), lower.charAt(n % 5) - '0');
            due("7: upper letter " + n + " of 2 / 5", x.mechanicalLetter(n, true), upper.charAt(n % 5) - '0');
        }
        x.setIntercept(3);
        due("7: lower letter 0 with intercept 3", x.mechanicalLetter(0, false), 1);
        due("7: upper letter 0 with intercept 3", x.mechanicalLetter(0, true), 0);
        due("7: upper letter 1 with intercept 3", x.mechanicalLetter(1, true), 1);
        due("7: mechanicalLetter(-1, true)", x.mechanicalLetter(-1, true), INVALID);
        due("7: mechanicalLetter(1000001, false)", x.mechanicalLetter(1000001, false), INVALID);
        due("7: mechanicalLetter(MIN, false)", x.mechanicalLetter(MIN, false), INVALID);
        due("7: mechanicalLetter(MAX, true)", x.mechanicalLetter(MAX, true), INVALID);
        x.setSlope(999, 1000);
        x.setIntercept(999);
        due("7: lower letter 1000000 of 999 / 1000", x.mechanicalLetter(1000000, false), 1);
        due("7: upper letter 1000000 of 999 / 1000", x.mechanicalLetter(1000000, true), 1);
        due("7: lower letter 999999 of 999 / 1000", x.mechanicalLetter(999999, false), 0);
        x.setIntercept(0);
        due("7: lower letter 1000000 with intercept 0", x.mechanicalLetter(1000000, false), 0);
        due("7: upper letter 999999 with intercept 0", x.mechanicalLetter(999999, true), 0);
        x.setSlope(0, 1);
        due("7: lower letter 5 of 0", x.mechanicalLetter(5, false), 0);
        x.setSlope(1, 1);
        due("7: upper letter 1000000 of 1", x.mechanicalLetter(1000000, true), 1);
    }

    private static void loadMechanical8() {
        SturmianWords x = with("111");
        due("8: loadMechanical(13, false)", x.loadMechanical(13, false), 5);
        dueWord("8: loadMechanical(13, false)", x, "0010010100101");
        due("8: loadMechanical(13, true)", x.loadMechanical(13, true), 5);
        dueWord("8: loadMechanical(13, true)", x, "1010010100100");
        x.setIntercept(7);
        due("8: loadMechanical(7, false) with intercept 7", x.loadMechanical(7, false), 3);
        dueWord("8: loadMechanical(7, false) with intercept 7", x, "0101001");
        due("8: loadMechanical(7, true) with intercept 7", x.loadMechanical(7, true), 3);
        dueWord("8: loadMechanical(7, true) with intercept 7", x, "0101001");
        due("8: loadMechanical(60, true)", x.loadMechanical(60, true), 23);
        due("8: it has 60 letters", x.length(), 60);
        int history = x.historySize();
        due("8: loadMechanical(61, true)", x.loadMechanical(61, true), LONG);
        due("8: loadMechanical(MAX, false)", x.loadMechanical(MAX, false), LONG);
        due("8: loadMechanical(-1, true)", x.loadMechanical(-1, true), INVALID);
        due("8: loadMechanical(MIN, false)", x.loadMechanical(MIN, false), INVALID);
        due("8: an error keeps the word", x.length(), 60);
        due("8: an error is no edit", x.historySize(), history);
        due("8: loadMechanical(0, false)", x.loadMechanical(0, false), 0);
        due("8: it has no letters", x.length(), 0);
        x.setSlope(1, 1);
        due("8: loadMechanical(60, false) of slope 1", x.loadMechanical(60, false), 60);
    }

    private static void loadStandard9() {
        String[] words = {"1", "0", "01", "010", "01001", "0100101001010"};
        SturmianWords x = new SturmianWords();
        for (int k = -1; k <= 4; k++) {
            due("9: loadStandard(" + k + ")", x.loadStandard(k), words[k + 1].length());
            dueWord("9: loadStandard(" + k + ")", x, words[k + 1]);
        }
        int history = x.historySize();
        due("9: loadStandard(5)", x.loadStandard(5), MISSING);
        due("9: loadStandard(MAX)", x.loadStandard(MAX), MISSING);
        due("9: loadStandard(-2)", x.loadStandard(-2), INVALID);
        due("9: loadStandard(MIN)", x.loadStandard(MIN), INVALID);
        due("9: an error keeps the word", x.length(), 13);
        due("9: an error is no edit", x.historySize(), history);
        x.setSlope(0, 1);
        due("9: loadStandard(0) of slope 0", x.loadStandard(0), 1);
        due("9: loadStandard(-1) of slope 0", x.loadStandard(-1), 1);
        due("9: loadStandard(1) of slope 0", x.loadStandard(1), MISSING);
        x.setSlope(1, 1);
        due("9: loadStandard(1) of slope 1", x.loadStandard(1), 1);
        dueWord("9: loadStandard(1) of slope 1", x, "1");
        due("9: loadStandard(2) of slope 1", x.loadStandard(2), MISSING);
        x.setSlope(1, 60);
        due("9: loadStandard(1) of 1 / 60", x.loadStandard(1), 60);
        due("9: its weight", x.weight(), 1);
        x.setSlope(1, 61);
        due("9: loadStandard(1) of 1 / 61", x.loadStandard(1), LONG);
        due("9: loadStandard(2) of 1 / 61", x.loadStandard(2), MISSING);
        x.setSlope(1, 1000);
        due("9: loadStandard(1) of 1 / 1000", x.loadStandard(1), LONG);
        x.setSlope(610, 987);
        due("9: loadStandard(9) of 610 / 987", x.loadStandard(9), 55);
        due("9: loadStandard(10) of 610 / 987", x.loadStandard(10), LONG);
        due("9: loadStandard(14) of 610 / 987", x.loadStandard(14), LONG);
        due("9: loadStandard(15) of 610 / 987", x.loadStandard(15), MISSING);
    }

    private static void append10() {
        SturmianWords x = new SturmianWords();
        due("10: append(2)", x.append(2), INVALID);
        due("10: append(-1)", x.append(-1), INVALID);
        due("10: append(MIN)", x.append(MIN), INVALID);
        due("10: append(MAX)", x.append(MAX), INVALID);
        due("10: an error is no edit", x.historySize(), 0);
        for (int i = 1; i <= 60; i++) {
            due("10: append number " + i, x.append(i % 3 == 0 ? 1 : 0), i);
        }
        due("10: append(1) to 60 letters", x.append(1), LONG);
        due("10: append(2) to 60 letters", x.append(2), INVALID);
        for (int i = 1; i <= 60; i++) {
            due("10: letter " + (i - 1), x.letterAt(i - 1), i % 3 == 0 ? 1 : 0);
        }
    }

    private static void removeLast11() {
        SturmianWords x = with("011");
        due("11: removeLast() of 011", x.removeLast(), 1);
        dueWord("11: removeLast() of 011", x, "01");
        due("11: removeLast() of 01", x.removeLast(), 1);
        due("11: removeLast() of 0", x.removeLast(), 0);
        int history = x.historySize();
        due("11: removeLast() of the empty word", x.removeLast(), MISSING);
        due("11: an error is no edit", x.historySize(), history);
    }

    private static void clear12() {
        SturmianWords x = with("0110");
        due("12: clear() of 0110", x.clear(), 4);
        due("12: the length then", x.length(), 0);
        due("12: the weight then", x.weight(), 0);
        due("12: clear() of the empty word", x.clear(), 0);
        due("12: that is an edit, too", x.historySize(), 6);
        x.undo();
        due("12: the word before the second clear()", x.length(), 0);
        x.undo();
        dueWord("12: undo of clear()", x, "0110");
        SturmianWords empty = new SturmianWords();
        empty.clear();
        due("12: an edit that changes nothing", empty.historySize(), 1);
    }

    private static void reverse13() {
        SturmianWords x = with("0011");
        due("13: reverse() of 0011", x.reverse(), 1);
        dueWord("13: reverse() of 0011", x, "1100");
        SturmianWords y = with("01010");
        due("13: reverse() of 01010", y.reverse(), 0);
        dueWord("13: reverse() of 01010", y, "01010");
        due("13: that is an edit, too", y.historySize(), 6);
        due("13: reverse() of the empty word", new SturmianWords().reverse(), 0);
        due("13: reverse() of 1000", with("1000").reverse(), 1);
        x.loadMechanical(60, false);
        String word = wordOf(x);
        due("13: reverse() of 60 letters", x.reverse(), 1);
        dueWord("13: reverse() of 60 letters", x, new StringBuilder(word).reverse().toString());
    }

    private static void applyMorphism14() {
        String[] images = {"1001", "010001", "100010", "001010", "010100"};
        for (int m = 0; m < images.length; m++) {
            SturmianWords x = with("0110");
            due("14: applyMorphism(" + m + ") to 0110", x.applyMorphism(m), images[m].length());
            dueWord("14: applyMorphism(" + m + ") to 0110", x, images[m]);
            due("14: applyMorphism(" + m + ") to the empty word", new SturmianWords().applyMorphism(m), 0);
        }
        SturmianWords x = with("0");
        due("14: applyMorphism(5)", x.applyMorphism(5), INVALID);
        due("14: applyMorphism(-1)", x.applyMorphism(-1), INVALID);
        due("14: applyMorphism(MIN)", x.applyMorphism(MIN), INVALID);
        due("14: applyMorphism(MAX)", x.applyMorphism(MAX), INVALID);
        due("14: an error is no edit", x.historySize(), 1);
        x = sloped(1, 2);
        x.loadMechanical(40, false);
        for (int m = 1; m <= 4; m++) {
            due("14: applyMorphism(" + m + ") to 20 letters each", x.applyMorphism(m), 60);
            due("14: one letter too many", x.applyMorphism(m), LONG);
            due("14: it stays", x.length(), 60);
            due("14: a wrong morphism before a long word", x.applyMorphism(9), INVALID);
            x.undo();
        }
        x.append(1);
        due("14: applyMorphism(3) to 20 zeros and 21 ones", x.applyMorphism(3), LONG);
        due("14: an error keeps the word", x.length(), 41);
        due("14: applyMorphism(0) is never too long", x.applyMorphism(0), 41);
    }

    private static void dueOrigin(String word, int morphism, String origin) {
        SturmianWords x = with(word);
        String call = "15: invertMorphism(" + morphism + ") of " + word;
        if (origin == null) {
            due(call, x.invertMorphism(morphism), MISSING);
            dueWord(call, x, word);
            due(call + " is no edit", x.historySize(), Math.min(6, word.length()));
        } else {
            due(call, x.invertMorphism(morphism), origin.length());
            dueWord(call, x, origin);
        }
    }

    private static void invertMorphism15() {
        for (int m = 0; m <= 4; m++) {
            dueOrigin("", m, "");
        }
        dueOrigin("0110", 0, "1001");
        dueOrigin("010001", 1, "0110");
        dueOrigin("100010", 2, "0110");
        dueOrigin("001010", 3, "0110");
        dueOrigin("010100", 4, "0110");
        dueOrigin("011", 1, null);
        dueOrigin("1", 1, null);
        dueOrigin("10", 1, null);
        dueOrigin("01", 2, null);
        dueOrigin("1", 2, null);
        dueOrigin("110", 2, null);
        dueOrigin("10", 3, null);
        dueOrigin("011", 3, null);
        dueOrigin("01", 4, null);
        dueOrigin("1101", 4, null);
        dueOrigin("0", 1, "1");
        dueOrigin("0", 2, "1");
        dueOrigin("0", 3, "0");
        dueOrigin("0", 4, "0");
        SturmianWords x = new SturmianWords();
        x.invertMorphism(3);
        due("15: it is an edit", x.historySize(), 1);
        due("15: invertMorphism(5)", x.invertMorphism(5), INVALID);
        due("15: invertMorphism(-1)", x.invertMorphism(-1), INVALID);
        due("15: invertMorphism(MIN)", x.invertMorphism(MIN), INVALID);
        due("15: invertMorphism(MAX)", x.invertMorphism(MAX), INVALID);
        due("15: a wrong morphism and no origin", with("11").invertMorphism(7), INVALID);
        due("15: an error is no edit", x.historySize(), 1);
    }

    private static void undo16() {
        SturmianWords x = new SturmianWords();
        due("16: undo() without an edit", x.undo(), MISSING);
        x.setIntercept(5);
        x.setSlope(1, 3);
        x.append(1);
        due("16: undo() of append", x.undo(), 2);
        due("16: the length then", x.length(), 0);
        due("16: undo() of setSlope", x.undo(), 1);
        due("16: the numerator then", x.slopeNumerator(), 5);
        due("16: the denominator then", x.slopeDenominator(), 13);
        due("16: undo() is no edit", x.historySize(), 1);
        due("16: undo() of setIntercept", x.undo(), 0);
        due("16: the intercept then", x.setIntercept(1), 0);
        x.setSlope(1, 4);
        x.undo();
        due("16: undo() of setSlope brings the intercept back", x.setIntercept(2), 1);
        x = with("0101010101");
        for (int left = 5; left >= 0; left--) {
            due("16: undo() with " + left + " left", x.undo(), left);
            due("16: the length with " + left + " left", x.length(), 4 + left);
        }
        due("16: the seventh undo()", x.undo(), MISSING);
        dueWord("16: the seventh undo()", x, "0101");
        x.append(1);
        due("16: undo() of an edit after undos", x.undo(), 0);
        dueWord("16: undo() of an edit after undos", x, "0101");
        x = with("0011010");
        x.undo();
        x.undo();
        x.append(1);
        x.reverse();
        due("16: undo() of reverse", x.undo(), 5);
        dueWord("16: undo() of reverse", x, "001101");
        x.undo();
        dueWord("16: undo() of append", x, "00110");
        x.undo();
        dueWord("16: undo() of the append before", x, "0011");
        due("16: three edits are left", x.historySize(), 3);
        dueEachEditUndone();
    }

    private static void dueEachEditUndone() {
        SturmianWords x = with("0010100101");
        for (int edit = 0; edit < 8; edit++) {
            int before = x.historySize();
            switch (edit) {
                case 0: x.loadMechanical(9, true); break;
                case 1: x.loadStandard(2); break;
                case 2: x.append(1); break;
                case 3: x.removeLast(); break;
                case 4: x.clear(); break;
                case 5: x.reverse(); break;
                case 6: x.applyMorphism(2); break;
                default: x.invertMorphism(3); break;
            }
            due("16: the history is full before edit " + edit, before, edit == 0 ? 6 : 5);
            due("16: edit " + edit + " can be undone", x.undo(), 5);
            dueWord("16: undo() of edit " + edit, x, "0010100101");
        }
    }

    private static void length17() {
        due("17: length() of the empty word", new SturmianWords().length(), 0);
        due("17: length() of 000", with("000").length(), 3);
        SturmianWords x = new SturmianWords();
        x.loadMechanical(60, false);
        due("17: length() of 60 letters", x.length(), 60);
        due("17: it is no edit", x.historySize(), 1);
    }

    private static void weight18() {
        due("18: weight() of the empty word", new SturmianWords().weight(), 0);
        due("18: weight() of 000", with("000").weight(), 0);
        due("18: weight() of 10110", with("10110").weight(), 3);
        SturmianWords x = sloped(1, 1);
        x.loadMechanical(60, false);
        due("18: weight() of 60 ones", x.weight(), 60);
    }

    private static void letterAt19() {
        SturmianWords x = with("1000001");
        due("19: letterAt(0)", x.letterAt(0), 1);
        due("19: letterAt(1)", x.letterAt(1), 0);
        due("19: letterAt(6)", x.letterAt(6), 1);
        due("19: letterAt(7)", x.letterAt(7), MISSING);
        due("19: letterAt(MAX)", x.letterAt(MAX), MISSING);
        due("19: letterAt(-1)", x.letterAt(-1), INVALID);
        due("19: letterAt(MIN)", x.letterAt(MIN), INVALID);
        due("19: letterAt(0) of the empty word", new SturmianWords().letterAt(0), MISSING);
        due("19: letterAt(-1) of the empty word", new SturmianWords().letterAt(-1), INVALID);
    }

    private static void factorCount20() {
        SturmianWords x = with("00110");
        int[] counts = {1, 2, 4, 3, 2, 1, 0, 0};
        for (int length = 0; length < counts.length; length++) {
            due("20: factorCount(" + length + ") of 00110", x.factorCount(length), counts[length]);
        }
        due("20: factorCount(-1)", x.factorCount(-1), INVALID);
        due("20: factorCount(MIN)", x.factorCount(MIN), INVALID);
        due("20: factorCount(MAX)", x.factorCount(MAX), 0);
        due("20: factorCount(0) of the empty word", new SturmianWords().factorCount(0), 1);
        due("20: factorCount(1) of the empty word", new SturmianWords().factorCount(1), 0);
        x.loadMechanical(60, false);
        due("20: factorCount(60) of 60 letters", x.factorCount(60), 1);
        due("20: factorCount(12) of 60 letters", x.factorCount(12), 13);
        due("20: factorCount(20) of 60 letters", x.factorCount(20), 13);
        due("20: factorCount(61) of 60 letters", x.factorCount(61), 0);
    }

    private static void factorAt21() {
        SturmianWords x = with("110100");
        int[] pairs = {0b00, 0b01, 0b10, 0b11};
        int[] threes = {0b010, 0b100, 0b101, 0b110};
        for (int i = 0; i < 4; i++) {
            due("21: factorAt(2, " + i + ")", x.factorAt(2, i), pairs[i]);
            due("21: factorAt(3, " + i + ")", x.factorAt(3, i), threes[i]);
        }
        due("21: factorAt(1, 0)", x.factorAt(1, 0), 0);
        due("21: factorAt(1, 1)", x.factorAt(1, 1), 1);
        due("21: factorAt(1, 2)", x.factorAt(1, 2), MISSING);
        due("21: factorAt(6, 0)", x.factorAt(6, 0), 0b110100);
        due("21: factorAt(6, 1)", x.factorAt(6, 1), MISSING);
        due("21: factorAt(7, 0)", x.factorAt(7, 0), MISSING);
        due("21: factorAt(30, 0)", x.factorAt(30, 0), MISSING);
        due("21: factorAt(2, 4)", x.factorAt(2, 4), MISSING);
        due("21: factorAt(2, MAX)", x.factorAt(2, MAX), MISSING);
        int[] wrongLengths = {0, -1, 31, MIN, MAX};
        for (int length : wrongLengths) {
            due("21: factorAt(" + length + ", 0)", x.factorAt(length, 0), INVALID);
        }
        due("21: factorAt(2, -1)", x.factorAt(2, -1), INVALID);
        due("21: factorAt(2, MIN)", x.factorAt(2, MIN), INVALID);
        due("21: factorAt(29, -1)", x.factorAt(29, -1), INVALID);
        due("21: factorAt(1, 0) of the empty word", new SturmianWords().factorAt(1, 0), MISSING);
        SturmianWords ones = sloped(1, 1);
        ones.loadMechanical(60, false);
        due("21: factorAt(30, 0) of 60 ones", ones.factorAt(30, 0), 0x3FFFFFFF);
        due("21: factorAt(30, 1) of 60 ones", ones.factorAt(30, 1), MISSING);
    }

    private static void unbalancedLength22() {
        due("22: of the empty word", new SturmianWords().unbalancedLength(), MISSING);
        due("22: of 0", with("0").unbalancedLength(), MISSING);
        due("22: of 0011", with("0011").unbalancedLength(), 2);
        due("22: of 1100", with("1100").unbalancedLength(), 2);
        due("22: of 01010", with("01010").unbalancedLength(), MISSING);
        due("22: of 00100101010", with("00100101010").unbalancedLength(), 5);
        due("22: of 1010001", with("1010001").unbalancedLength(), 3);
        SturmianWords x = sloped(0, 1);
        x.loadMechanical(58, false);
        x.append(1);
        due("22: of 58 zeros and a one", x.unbalancedLength(), MISSING);
        x.append(1);
        due("22: of 58 zeros and two ones", x.unbalancedLength(), 2);
    }

    private static void palindromeCount23() {
        due("23: of the empty word", new SturmianWords().palindromeCount(), 1);
        due("23: of 0", with("0").palindromeCount(), 2);
        due("23: of 01", with("01").palindromeCount(), 3);
        due("23: of 0011", with("0011").palindromeCount(), 5);
        due("23: of 00101100", with("00101100").palindromeCount(), 8);
        SturmianWords x = sloped(0, 1);
        x.loadMechanical(60, false);
        due("23: of 60 zeros", x.palindromeCount(), 61);
        x.setSlope(1, 2);
        x.loadMechanical(60, true);
        due("23: of 30 times 10", x.palindromeCount(), 61);
        due("23: it is no edit", x.historySize(), 4);
    }

    private static void longestPalindromicPrefix24() {
        due("24: of the empty word", new SturmianWords().longestPalindromicPrefix(), 0);
        due("24: of 1", with("1").longestPalindromicPrefix(), 1);
        due("24: of 01", with("01").longestPalindromicPrefix(), 1);
        due("24: of 0011", with("0011").longestPalindromicPrefix(), 2);
        due("24: of 0100101", with("0100101").longestPalindromicPrefix(), 6);
        due("24: of 0110", with("0110").longestPalindromicPrefix(), 4);
        due("24: of 1000", with("1000").longestPalindromicPrefix(), 1);
        SturmianWords x = sloped(1, 2);
        x.loadMechanical(60, true);
        due("24: of 30 times 10", x.longestPalindromicPrefix(), 59);
    }

    private static void leastPeriod25() {
        due("25: of the empty word", new SturmianWords().leastPeriod(), MISSING);
        due("25: of 1", with("1").leastPeriod(), 1);
        due("25: of 000", with("000").leastPeriod(), 1);
        due("25: of 01", with("01").leastPeriod(), 2);
        due("25: of 001001", with("001001").leastPeriod(), 3);
        due("25: of 0100101", with("0100101").leastPeriod(), 5);
        due("25: of 0001", with("0001").leastPeriod(), 4);
        due("25: of 0010", with("0010").leastPeriod(), 3);
        SturmianWords x = sloped(0, 1);
        x.loadMechanical(59, false);
        x.append(1);
        due("25: of 59 zeros and a one", x.leastPeriod(), 60);
        due("25: it is no edit", x.historySize(), 3);
    }

    private static void isCentral26() {
        String[] central = {"", "0", "1", "00", "11", "000", "010", "101", "00000", "010010", "01010",
            "00100", "01001010010"};
        for (String word : central) {
            due("26: isCentral() of " + word, with(word).isCentral(), 1);
        }
        String[] others = {"01", "10", "001", "0110", "0101", "01001", "001001", "0100", "00110", "0010010", "10101101", "0010100"};
        for (String word : others) {
            due("26: isCentral() of " + word, with(word).isCentral(), 0);
        }
        SturmianWords x = sloped(0, 1);
        x.loadMechanical(60, false);
        due("26: isCentral() of 60 zeros", x.isCentral(), 1);
    }

    private static void dueSlope(SturmianWords x, String word, int a, int b, int d) {
        due("27: simplestSlope(0) of " + word, x.simplestSlope(0), a);
        due("27: simplestSlope(1) of " + word, x.simplestSlope(1), b);
        due("27: simplestSlope(2) of " + word, x.simplestSlope(2), d);
        due("27: simplestSlope(3) of " + word, x.simplestSlope(3), INVALID);
        due("27: simplestSlope(-1) of " + word, x.simplestSlope(-1), INVALID);
        due("27: simplestSlope(MIN) of " + word, x.simplestSlope(MIN), INVALID);
        due("27: simplestSlope(MAX) of " + word, x.simplestSlope(MAX), INVALID);
    }

    private static void simplestSlope27() {
        dueSlope(new SturmianWords(), "the empty word", 0, 1, 0);
        dueSlope(with("0"), "0", 0, 1, 0);
        dueSlope(with("1"), "1", 1, 1, 0);
        dueSlope(with("01"), "01", 1, 2, 0);
        dueSlope(with("10"), "10", 1, 2, 1);
        dueSlope(with("001"), "001", 1, 3, 0);
        dueSlope(with("100"), "100", 1, 3, 2);
        dueSlope(with("110"), "110", 2, 3, 2);
        dueSlope(with("01011"), "01011", 3, 5, 0);
        dueSlope(with("0010100"), "0010100", 2, 5, 0);
        dueSlope(with("0011"), "0011", MISSING, MISSING, MISSING);
        due("27: a wrong part of a word without a slope", with("0011").simplestSlope(5), INVALID);
        SturmianWords x = sloped(1, 60);
        x.loadMechanical(60, false);
        dueSlope(x, "59 zeros and a one", 1, 60, 0);
        x.setSlope(0, 1);
        x.loadMechanical(59, false);
        x.applyMorphism(0);
        x.append(0);
        dueSlope(x, "59 ones and a zero", 59, 60, 59);
        x.loadMechanical(30, false);
        x.append(1);
        dueSlope(x, "30 zeros and a one", 1, 31, 0);
        due("27: it is no edit", x.historySize(), 6);
    }

    private static void gapSizeCount28() {
        SturmianWords x = new SturmianWords();
        int[] counts = {1, 2, 2, 3, 2, 3, 3, 2, 2, 2, 2, 2, 1, 1};
        for (int m = 1; m <= counts.length; m++) {
            due("28: gapSizeCount(" + m + ") of 5 / 13", x.gapSizeCount(m), counts[m - 1]);
        }
        due("28: gapSizeCount(1000) of 5 / 13", x.gapSizeCount(1000), 1);
        int[] wrongs = {0, -1, 1001, MIN, MAX};
        for (int m : wrongs) {
            due("28: gapSizeCount(" + m + ")", x.gapSizeCount(m), INVALID);
        }
        x.setIntercept(6);
        due("28: the intercept does not matter", x.gapSizeCount(4), 3);
        x.setSlope(0, 1);
        due("28: gapSizeCount(1000) of 0", x.gapSizeCount(1000), 1);
        x.setSlope(1, 2);
        due("28: gapSizeCount(2) of 1 / 2", x.gapSizeCount(2), 1);
        x.setSlope(999, 1000);
        due("28: gapSizeCount(999) of 999 / 1000", x.gapSizeCount(999), 2);
        due("28: gapSizeCount(1000) of 999 / 1000", x.gapSizeCount(1000), 1);
        due("28: it is no edit", x.historySize(), 4);
    }

    private static void gapSize29() {
        SturmianWords x = new SturmianWords();
        due("29: gapSize(1, 0)", x.gapSize(1, 0), 13);
        due("29: gapSize(1, 1)", x.gapSize(1, 1), MISSING);
        due("29: gapSize(2, 0)", x.gapSize(2, 0), 5);
        due("29: gapSize(2, 1)", x.gapSize(2, 1), 8);
        due("29: gapSize(2, 2)", x.gapSize(2, 2), MISSING);
        due("29: gapSize(4, 2)", x.gapSize(4, 2), 5);
        due("29: gapSize(4, MAX)", x.gapSize(4, MAX), MISSING);
        due("29: gapSize(4, -1)", x.gapSize(4, -1), INVALID);
        due("29: gapSize(4, MIN)", x.gapSize(4, MIN), INVALID);
        due("29: gapSize(0, 0)", x.gapSize(0, 0), INVALID);
        due("29: gapSize(0, 7)", x.gapSize(0, 7), INVALID);
        due("29: gapSize(1001, 0)", x.gapSize(1001, 0), INVALID);
        due("29: gapSize(MIN, 0)", x.gapSize(MIN, 0), INVALID);
        due("29: gapSize(MAX, 0)", x.gapSize(MAX, 0), INVALID);
        due("29: gapSize(1000, 0)", x.gapSize(1000, 0), 1);
        x.setSlope(1, 1);
        due("29: gapSize(1000, 0) of 1", x.gapSize(1000, 0), 1);
        x.setSlope(1, 1000);
        due("29: gapSize(1, 0) of 1 / 1000", x.gapSize(1, 0), 1000);
        due("29: gapSize(500, 1) of 1 / 1000", x.gapSize(500, 1), 501);
    }

    private static void gapsOfSize30() {
        SturmianWords x = new SturmianWords();
        due("30: gapsOfSize(1, 13)", x.gapsOfSize(1, 13), 1);
        due("30: gapsOfSize(4, 2)", x.gapsOfSize(4, 2), 1);
        due("30: gapsOfSize(4, 3)", x.gapsOfSize(4, 3), 2);
        due("30: gapsOfSize(4, 5)", x.gapsOfSize(4, 5), 1);
        due("30: gapsOfSize(4, 4)", x.gapsOfSize(4, 4), 0);
        due("30: gapsOfSize(4, 1001)", x.gapsOfSize(4, 1001), 0);
        due("30: gapsOfSize(4, MAX)", x.gapsOfSize(4, MAX), 0);
        due("30: gapsOfSize(20, 1)", x.gapsOfSize(20, 1), 13);
        due("30: gapsOfSize(4, 0)", x.gapsOfSize(4, 0), INVALID);
        due("30: gapsOfSize(4, -1)", x.gapsOfSize(4, -1), INVALID);
        due("30: gapsOfSize(4, MIN)", x.gapsOfSize(4, MIN), INVALID);
        due("30: gapsOfSize(0, 2)", x.gapsOfSize(0, 2), INVALID);
        due("30: gapsOfSize(1001, 2)", x.gapsOfSize(1001, 2), INVALID);
        due("30: gapsOfSize(MIN, 2)", x.gapsOfSize(MIN, 2), INVALID);
        due("30: gapsOfSize(MAX, 2)", x.gapsOfSize(MAX, 2), INVALID);
        x.setSlope(1, 1000);
        due("30: gapsOfSize(1000, 1) of 1 / 1000", x.gapsOfSize(1000, 1), 1000);
        due("30: gapsOfSize(1, 1000) of 1 / 1000", x.gapsOfSize(1, 1000), 1);
        x.setSlope(5, 13);
        due("30: marks of another slope are gone", x.gapsOfSize(1, 13), 1);
    }

    private static void historySize31() {
        SturmianWords x = new SturmianWords();
        for (int edits = 0; edits <= 9; edits++) {
            due("31: historySize() after " + edits + " edits", x.historySize(), Math.min(edits, 6));
            x.setSlope(1, 2);
        }
        x.undo();
        due("31: historySize() after an undo", x.historySize(), 5);
        x.setIntercept(0);
        due("31: historySize() after one more edit", x.historySize(), 6);
        for (int i = 0; i < 7; i++) {
            x.undo();
        }
        due("31: historySize() after all undos", x.historySize(), 0);
    }
}
