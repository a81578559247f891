import java.util.Arrays;

/** A workbench for mechanical, Sturmian and balanced words over the alphabet {0, 1}. */
public final class SturmianWords {
    public static final int INVALID_ARGUMENT = -1;
    public static final int TOO_LONG = -2;
    public static final int NOT_FOUND = -3;

    private static final int MAX_LETTERS = 60;
    private static final int MAX_LISTED_FACTOR = 30;
    private static final int MAX_DENOMINATOR = 1000;
    private static final int MAX_POSITION = 1000000;
    private static final int MAX_SIMPLE_DENOMINATOR = 61;
    private static final int MAX_POINTS = 1000;
    private static final int MAX_UNDO = 6;

    // Each step of Euclid's algorithm makes the divisor smaller, and it is at most 1000 at first.
    private static final int MAX_EUCLID_STEPS = 1000;

    // What the classes inside answer instead of a letter, a term, a factor or an intercept.
    private static final int NONE = -1;

    private final History history;
    private final Circle circle;
    private State state;

    public SturmianWords() {
        history = new History();
        circle = new Circle();
        state = new State(new Slope(5, 13, 0), new Word(0L, 0));
    }

    public int setSlope(int p, int q) {
        if (q < 1 || q > MAX_DENOMINATOR || p < 0 || p > q) {
            return INVALID_ARGUMENT;
        }
        int divisor = commonDivisor(p, q);
        int denominator = (int) quotient(q, divisor);
        changeSlope(new Slope((int) quotient(p, divisor), denominator, 0));
        return denominator;
    }

    public int setIntercept(int c) {
        Slope slope = state.slope;
        if (c < 0 || c >= slope.denominator) {
            return INVALID_ARGUMENT;
        }
        changeSlope(new Slope(slope.numerator, slope.denominator, c));
        return slope.intercept;
    }

    public int slopeNumerator() {
        return state.slope.numerator;
    }

    public int slopeDenominator() {
        return state.slope.denominator;
    }

    public int continuedFractionTerm(int index) {
        if (index < 1) {
            return INVALID_ARGUMENT;
        }
        int term = state.slope.term(index);
        return term == NONE ? NOT_FOUND : term;
    }

    public int mechanicalLetter(int n, boolean upper) {
        if (n < 0 || n > MAX_POSITION) {
            return INVALID_ARGUMENT;
        }
        return state.slope.letter(n, upper);
    }

    public int loadMechanical(int length, boolean upper) {
        if (length < 0) {
            return INVALID_ARGUMENT;
        }
        if (length > MAX_LETTERS) {
            return TOO_LONG;
        }
        Word word = state.slope.firstLetters(length, upper);
        changeWord(word);
        return word.ones();
    }

    public int loadStandard(int k) {
        if (k < -1) {
            return INVALID_ARGUMENT;
        }
        // A word that does not exist is not found, however long the ones before it are.
        if (k > 0 && state.slope.term(k) == NONE) {
            return NOT_FOUND;
        }
        Word word = state.slope.standardWord(k);
        if (word == null) {
            return TOO_LONG;
        }
        changeWord(word);
        return word.size;
    }

    public int append(int letter) {
        if (letter != 0 && letter != 1) {
            return INVALID_ARGUMENT;
        }
        Word word = state.word;
        if (word.size >= MAX_LETTERS) {
            return TOO_LONG;
        }
        changeWord(new Word(word.bits << 1 | letter, word.size + 1));
        return word.size + 1;
    }

    public int removeLast() {
        Word word = state.word;
        if (word.size < 1) {
            return NOT_FOUND;
        }
        changeWord(new Word(word.bits >>> 1, word.size - 1));
        return word.letter(word.size - 1);
    }

    public int clear() {
        int before = state.word.size;
        changeWord(new Word(0L, 0));
        return before;
    }

    public int reverse() {
        Word word = state.word;
        Word turned = word.reversed();
        changeWord(turned);
        return turned.bits == word.bits ? 0 : 1;
    }

    public int applyMorphism(int morphism) {
        Morphism chosen = Morphism.numbered(morphism);
        if (chosen == null) {
            return INVALID_ARGUMENT;
        }
        Word image = chosen.imageOf(state.word);
        if (image == null) {
            return TOO_LONG;
        }
        changeWord(image);
        return image.size;
    }

    public int invertMorphism(int morphism) {
        Morphism chosen = Morphism.numbered(morphism);
        if (chosen == null) {
            return INVALID_ARGUMENT;
        }
        Word origin = chosen.originOf(state.word);
        if (origin == null) {
            return NOT_FOUND;
        }
        changeWord(origin);
        return origin.size;
    }

    public int undo() {
        State before = history.takeLatest();
        if (before == null) {
            return NOT_FOUND;
        }
        state = before;
        return history.kept;
    }

    public int length() {
        return state.word.size;
    }

    public int weight() {
        return state.word.ones();
    }

    public int letterAt(int index) {
        if (index < 0) {
            return INVALID_ARGUMENT;
        }
        return index < state.word.size ? state.word.letter(index) : NOT_FOUND;
    }

    public int factorCount(int length) {
        return length < 0 ? INVALID_ARGUMENT : state.word.differentFactors(length);
    }

    public int factorAt(int length, int index) {
        if (length < 1 || length > MAX_LISTED_FACTOR || index < 0) {
            return INVALID_ARGUMENT;
        }
        long factor = state.word.listedFactor(length, index);
        return factor == NONE ? NOT_FOUND : (int) factor;
    }

    public int unbalancedLength() {
        Word word = state.word;
        for (int count = 1; count <= word.size; count++) {
            if (word.weightSpread(count) >= 2) {
                return count;
            }
        }
        return NOT_FOUND;
    }

    public int palindromeCount() {
        return state.word.differentPalindromes();
    }

    public int longestPalindromicPrefix() {
        Word word = state.word;
        Word turned = word.reversed();
        for (int count = word.size; count > 0; count--) {
            if (word.isPalindrome(0, count, turned)) {
                return count;
            }
        }
        return 0;
    }

    public int leastPeriod() {
        Word word = state.word;
        for (int shift = 1; shift <= word.size; shift++) {
            if (word.hasPeriod(shift)) {
                return shift;
            }
        }
        return NOT_FOUND;
    }

    public int isCentral() {
        Word word = state.word;
        int sum = word.size + 2;
        for (int shift = 1; shift < sum; shift++) {
            int other = sum - shift;
            if (word.hasPeriod(shift) && word.hasPeriod(other) && commonDivisor(shift, other) == 1) {
                return 1;
            }
        }
        return 0;
    }

    public int simplestSlope(int part) {
        if (part < 0 || part > 2) {
            return INVALID_ARGUMENT;
        }
        Slope slope = state.word.simplest();
        if (slope == null) {
            return NOT_FOUND;
        }
        if (part == 0) {
            return slope.numerator;
        }
        return part == 1 ? slope.denominator : slope.intercept;
    }

    public int gapSizeCount(int m) {
        if (m < 1 || m > MAX_POINTS) {
            return INVALID_ARGUMENT;
        }
        circle.measure(state.slope, m);
        return circle.differentSizes();
    }

    public int gapSize(int m, int index) {
        if (m < 1 || m > MAX_POINTS || index < 0) {
            return INVALID_ARGUMENT;
        }
        circle.measure(state.slope, m);
        int size = circle.listedSize(index);
        return size == NONE ? NOT_FOUND : size;
    }

    public int gapsOfSize(int m, int size) {
        if (m < 1 || m > MAX_POINTS || size < 1) {
            return INVALID_ARGUMENT;
        }
        circle.measure(state.slope, m);
        return circle.gapsWith(size);
    }

    public int historySize() {
        return history.kept;
    }

    private void changeSlope(Slope slope) {
        history.keep(state);
        state = new State(slope, state.word);
    }

    private void changeWord(Word word) {
        history.keep(state);
        state = new State(state.slope, word);
    }

    /** The floor of dividend / divisor for dividend >= 0. No other place divides, so each divisor is tested. */
    private static long quotient(long dividend, long divisor) {
        return divisor < 1 ? 0L : dividend / divisor;
    }

    private static int commonDivisor(int a, int b) {
        int larger = b;
        int smaller = a;
        for (int step = 0; step < MAX_EUCLID_STEPS && smaller > 0; step++) {
            int rest = larger - (int) quotient(larger, smaller) * smaller;
            larger = smaller;
            smaller = rest;
        }
        return larger;
    }

    /** What an edit changes; never changed itself, so that the history may keep it as it is. */
    private static final class State {
        private final Slope slope;
        private final Word word;

        State(Slope slope, Word word) {
            this.slope = slope;
            this.word = word;
        }
    }

    /** The states before the latest edits, in a ring: the oldest gives way. */
    private static final class History {
        private final State[] rows = new State[MAX_UNDO];
        private int next = 0;
        private int kept = 0;

        void keep(State state) {
            if (next < 0 || next >= rows.length) {
                return;
            }
            rows[next] = state;
            next = next + 1 < rows.length ? next + 1 : 0;
            kept = Math.min(kept + 1, rows.length);
        }

        /** The state before the latest edit, which is forgotten here; null if none is kept. */
        State takeLatest() {
            int latest = next > 0 ? next - 1 : rows.length - 1;
            if (kept < 1 || latest < 0 || latest >= rows.length) {
                return null;
            }
            next = latest;
            kept--;
            return rows[latest];
        }
    }

    /** A slope numerator / denominator in lowest terms with an intercept over the same denominator. */
    private static final class Slope {
        private final int numerator;
        private final int denominator;
        private final int intercept;

        Slope(int numerator, int denominator, int intercept) {
            this.numerator = numerator;
            this.denominator = denominator;
            this.intercept = intercept;
        }

        /** The term of the continued fraction with this index from 1 on; NONE if there is none. */
        int term(int index) {
            int dividend = denominator;
            int divisor = numerator;
            for (int i = 1; i <= MAX_EUCLID_STEPS && divisor > 0; i++) {
                int times = (int) quotient(dividend, divisor);
                if (i == index) {
                    return times;
                }
                int rest = dividend - times * divisor;
                dividend = divisor;
                divisor = rest;
            }
            return NONE;
        }

        int letter(int n, boolean upper) {
            // The ceiling of x / q is the floor of (x + q - 1) / q.
            long rounding = upper ? denominator - 1L : 0L;
            long here = (long) n * numerator + intercept + rounding;
            return (int) (quotient(here + numerator, denominator) - quotient(here, denominator));
        }

        /** The beginning of a mechanical word, for a count of at most 60 letters. */
        Word firstLetters(int count, boolean upper) {
            long bits = 0L;
            for (int n = 0; n < count; n++) {
                bits = bits << 1 | letter(n, upper);
            }
            return new Word(bits, count);
        }

        /** The standard word s(k), where term k exists or k is 0 or -1; null if it has more than 60 letters. */
        Word standardWord(int k) {
            Word before = new Word(1L, 1);
            Word word = new Word(0L, 1);
            if (k < 0) {
                return before;
            }
            for (int i = 1; i <= k; i++) {
                int times = i == 1 ? term(i) - 1 : term(i);
                Word following = word.repeatedThen(times, before);
                // No standard word is shorter than the one before it.
                if (following == null) {
                    return null;
                }
                before = word;
                word = following;
            }
            return word;
        }
    }

    /** A word, never changed; its last letter is the lowest bit, so that factors compare as numbers. */
    private static final class Word {
        private final long bits;
        private final int size;

        Word(long bits, int size) {
            this.bits = bits;
            this.size = size;
        }

        int letter(int index) {
            return (int) factor(index, 1);
        }

        /** The factor of count letters from start on, read as a binary number. */
        long factor(int start, int count) {
            return bits >>> (size - start - count) & (1L << count) - 1L;
        }

        int ones() {
            return Long.bitCount(bits);
        }

        Word reversed() {
            long turned = 0L;
            for (int i = 0; i < size; i++) {
                turned = turned << 1 | (bits >>> i & 1L);
            }
            return new Word(turned, size);
        }

        /** This word repeated, followed by the tail; null if that has more than 60 letters. */
        Word repeatedThen(int times, Word tail) {
            int total = times * size + tail.size;
            if (total > MAX_LETTERS) {
                return null;
            }
            long repeated = 0L;
            for (int i = 0; i < times; i++) {
                repeated = repeated << size | bits;
            }
            return new Word(repeated << tail.size | tail.bits, total);
        }

        /** Whether no factor that starts earlier is equal to the one from start on. */
        boolean isNew(int start, int count) {
            long factor = factor(start, count);
            for (int earlier = 0; earlier < start; earlier++) {
                if (factor(earlier, count) == factor) {
                    return false;
                }
            }
            return true;
        }

        int differentFactors(int count) {
            int found = 0;
            for (int start = 0; start <= size - count; start++) {
                if (isNew(start, count)) {
                    found++;
                }
            }
            return found;
        }

        /** The factor with this index in the sorted list of the factors of count letters; NONE if there is none. */
        long listedFactor(int count, int index) {
            // Factors of one letter or more start at different places, so there are at most as many as letters.
            if (index >= size) {
                return NONE;
            }
            long factor = nextFactor(count, NONE);
            for (int i = 0; i < index && factor != NONE; i++) {
                factor = nextFactor(count, factor);
            }
            return factor;
        }

        /** The least factor of count letters above a number; NONE if there is none. */
        long nextFactor(int count, long above) {
            long least = NONE;
            for (int start = 0; start <= size - count; start++) {
                long factor = factor(start, count);
                if (factor > above && (least == NONE || factor < least)) {
                    least = factor;
                }
            }
            return least;
        }

        /** How much the weights of two factors of count letters differ at most. */
        int weightSpread(int count) {
            int least = count;
            int most = 0;
            for (int start = 0; start <= size - count; start++) {
                int ones = Long.bitCount(factor(start, count));
                least = Math.min(least, ones);
                most = Math.max(most, ones);
            }
            return most - least;
        }

        /** Whether a factor is a palindrome, given this word reversed. */
        boolean isPalindrome(int start, int count, Word turned) {
            return factor(start, count) == turned.factor(size - start - count, count);
        }

        int differentPalindromes() {
            Word turned = reversed();
            int found = 1;
            for (int count = 1; count <= size; count++) {
                for (int start = 0; start <= size - count; start++) {
                    if (isPalindrome(start, count, turned) && isNew(start, count)) {
                        found++;
                    }
                }
            }
            return found;
        }

        /** Whether a shift of 1 or more is a period in the wider sense: each one above the size is. */
        boolean hasPeriod(int shift) {
            return shift > size || factor(0, size - shift) == factor(shift, size - shift);
        }

        /** The simplest slope of this word with its least intercept; null if there is none. */
        Slope simplest() {
            for (int b = 1; b <= MAX_SIMPLE_DENOMINATOR; b++) {
                for (int a = 0; a <= b; a++) {
                    int d = leastIntercept(a, b);
                    if (d != NONE && commonDivisor(a, b) == 1) {
                        return new Slope(a, b, d);
                    }
                }
            }
            return null;
        }

        /** The least d from 0 to b - 1 such that the lower word of a / b and d / b begins with this; else NONE. */
        int leastIntercept(int a, int b) {
            int least = 0;
            int most = b - 1;
            int ones = 0;
            for (int count = 1; count <= size; count++) {
                ones += letter(count - 1);
                // The first letters' weight is the floor of (count * a + d) / b, which bounds d on both sides.
                int lowest = ones * b - count * a;
                least = Math.max(least, lowest);
                most = Math.min(most, lowest + b - 1);
                if (least > most) {
                    return NONE;
                }
            }
            return least;
        }
    }

    /** The morphisms, each as the images of 0 and of 1, read as binary numbers, with their sizes. */
    private enum Morphism {
        EXCHANGE(1, 1, 0, 1),
        ZERO_TO_01(1, 2, 0, 1),
        ZERO_TO_10(2, 2, 0, 1),
        ONE_TO_01(0, 1, 1, 2),
        ONE_TO_10(0, 1, 2, 2);

        private final int bitsOfZero;
        private final int sizeOfZero;
        private final int bitsOfOne;
        private final int sizeOfOne;

        Morphism(int bitsOfZero, int sizeOfZero, int bitsOfOne, int sizeOfOne) {
            this.bitsOfZero = bitsOfZero;
            this.sizeOfZero = sizeOfZero;
            this.bitsOfOne = bitsOfOne;
            this.sizeOfOne = sizeOfOne;
        }

        /** The morphism with a number of the document; null if there is none. */
        static Morphism numbered(int number) {
            switch (number) {
                case 0:
                    return EXCHANGE;
                case 1:
                    return ZERO_TO_01;
                case 2:
                    return ZERO_TO_10;
                case 3:
                    return ONE_TO_01;
                case 4:
                    return ONE_TO_10;
                default:
                    return null;
            }
        }

        int bitsOf(int letter) {
            return letter == 0 ? bitsOfZero : bitsOfOne;
        }

        int sizeOf(int letter) {
            return letter == 0 ? sizeOfZero : sizeOfOne;
        }

        /** The image of a word; null if it has more than 60 letters. */
        Word imageOf(Word word) {
            long bits = 0L;
            int size = 0;
            for (int i = 0; i < word.size; i++) {
                int letter = word.letter(i);
                bits = bits << sizeOf(letter) | bitsOf(letter);
                size += sizeOf(letter);
                if (size > MAX_LETTERS) {
                    return null;
                }
            }
            return new Word(bits, size);
        }

        /** The word whose image a word is; null if there is none. */
        Word originOf(Word image) {
            long bits = 0L;
            int size = 0;
            for (int place = 0; place < image.size; place++) {
                int letter = letterBehind(image, place);
                if (letter == NONE) {
                    return null;
                }
                bits = bits << 1 | letter;
                size++;
                if (sizeOf(letter) == 2) {
                    place++;
                }
            }
            return new Word(bits, size);
        }

        /** The letter whose image stands at a place; NONE if there is none. */
        int letterBehind(Word image, int place) {
            // Where 01 stands, a lone 0 can't be meant: no image starts with 1 then. So the longer one goes first.
            int longer = sizeOfOne > sizeOfZero ? 1 : 0;
            if (hasImageAt(image, place, longer)) {
                return longer;
            }
            return hasImageAt(image, place, 1 - longer) ? 1 - longer : NONE;
        }

        boolean hasImageAt(Word word, int place, int letter) {
            int count = sizeOf(letter);
            return place + count <= word.size && word.factor(place, count) == bitsOf(letter);
        }
    }

    /** The points of a rotation on their circle, and how many gaps of each size lie between them. */
    private static final class Circle {
        private final boolean[] points = new boolean[MAX_DENOMINATOR];
        private final int[] gaps = new int[MAX_DENOMINATOR + 1];

        void measure(Slope slope, int generated) {
            markPoints(slope, generated);
            Arrays.fill(gaps, 0);
            int last = 0;
            for (int place = 1; place <= slope.denominator; place++) {
                // Behind the last point the circle closes at the point 0.
                if (place == slope.denominator || isPoint(place)) {
                    addGap(place - last);
                    last = place;
                }
            }
        }

        void markPoints(Slope slope, int generated) {
            for (int place = 0; place < points.length; place++) {
                points[place] = false;
            }
            int point = 0;
            for (int k = 0; k < generated; k++) {
                if (point >= 0 && point < points.length) {
                    points[point] = true;
                }
                point += slope.numerator;
                if (point >= slope.denominator) {
                    point -= slope.denominator;
                }
            }
        }

        boolean isPoint(int place) {
            return place >= 0 && place < points.length && points[place];
        }

        void addGap(int size) {
            if (size >= 0 && size < gaps.length) {
                gaps[size]++;
            }
        }

        int gapsWith(int size) {
            return size >= 0 && size < gaps.length ? gaps[size] : 0;
        }

        int differentSizes() {
            int found = 0;
            for (int size = 1; size < gaps.length; size++) {
                if (gaps[size] > 0) {
                    found++;
                }
            }
            return found;
        }

        /** The gap size with this index in increasing order; NONE if there is none. */
        int listedSize(int index) {
            int smaller = 0;
            for (int size = 1; size < gaps.length; size++) {
                if (gaps[size] > 0) {
                    if (smaller == index) {
                        return size;
                    }
                    smaller++;
                }
            }
            return NONE;
        }
    }
}
