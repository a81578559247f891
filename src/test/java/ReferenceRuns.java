import java.util.ArrayDeque;
import java.util.ArrayList;
import java.util.List;
import java.util.TreeMap;
import java.util.TreeSet;

/** Long runs of calls, each answer compared with a second workbench that follows the document's words on strings. */
public final class ReferenceRuns {
    private static final int RUNS = 1500;
    // With the three calls of a query for gaps and the look at the state, an object stays under 512 calls.
    private static final int CALLS = 140;
    private static final int[] WILD = {Integer.MIN_VALUE, -1000, -2, -1, 0, 1, 2, 5, 31, 60, 61, 1000, 1001, Integer.MAX_VALUE};

    private static long seed = 20261118L;
    private static int wrong = 0;

    public static void main(String[] args) {
        everySlope();
        everyShortWord();
        for (int run = 0; run < RUNS && wrong < 20; run++) {
            mixedRun(run);
        }
        System.out.println(wrong == 0 ? "all runs are as the reference" : wrong + " answers differ from the reference");
        if (wrong != 0) {
            System.exit(1);
        }
    }

    private static void compare(String call, int got, int want) {
        if (got != want) {
            wrong++;
            System.out.println(call + " answered " + got + ", the reference says " + want);
        }
    }

    private static int below(int bound) {
        seed = seed * 6364136223846793005L + 1442695040888963407L;
        return (int) ((seed >>> 33) % bound);
    }

    private static int from(int low, int high) {
        return below(12) == 0 ? WILD[below(WILD.length)] : low + below(high - low + 1);
    }

    // ---- all small cases

    private static void everySlope() {
        for (int q = 1; q <= 40; q++) {
            for (int p = 0; p <= q; p++) {
                SturmianWords x = new SturmianWords();
                Reference y = new Reference();
                compare("setSlope", x.setSlope(p, q), y.setSlope(p, q));
                compare("setIntercept", x.setIntercept(y.q / 2), y.setIntercept(y.q / 2));
                for (int index = 1; index <= 12; index++) {
                    compare("term " + p + "/" + q, x.continuedFractionTerm(index), y.continuedFractionTerm(index));
                }
                for (int m = 1; m <= q + 1; m++) {
                    gapsAlike(x, y, m, p + "/" + q);
                }
            }
        }
    }

    private static void gapsAlike(SturmianWords x, Reference y, int m, String slope) {
        TreeMap<Integer, Integer> gaps = y.gaps(m);
        compare("gapSizeCount(" + m + ") of " + slope, x.gapSizeCount(m), gaps.size());
        int index = 0;
        for (int size : gaps.keySet()) {
            compare("gapSize(" + m + ", " + index + ") of " + slope, x.gapSize(m, index), size);
            compare("gapsOfSize(" + m + ", " + size + ") of " + slope, x.gapsOfSize(m, size), gaps.get(size));
            index++;
        }
    }

    private static void everyShortWord() {
        for (int size = 0; size <= 9; size++) {
            for (int bits = 0; bits < 1 << size; bits++) {
                SturmianWords x = new SturmianWords();
                Reference y = new Reference();
                for (int i = size - 1; i >= 0; i--) {
                    x.append(bits >> i & 1);
                    y.append(bits >> i & 1);
                }
                wordsAlike(x, y);
                for (int m = 0; m <= 4; m++) {
                    compare("invertMorphism(" + m + ") of " + y.word, x.invertMorphism(m), y.invertMorphism(m));
                    compare("historySize()", x.historySize(), y.historySize());
                    statesAlike("invertMorphism(" + m + ")", x, y);
                }
            }
        }
    }

    private static void wordsAlike(SturmianWords x, Reference y) {
        String of = " of " + y.word;
        for (int length = 0; length <= y.word.length() + 1; length++) {
            compare("factorCount(" + length + ")" + of, x.factorCount(length), y.factorCount(length));
        }
        compare("unbalancedLength()" + of, x.unbalancedLength(), y.unbalancedLength());
        compare("palindromeCount()" + of, x.palindromeCount(), y.palindromeCount());
        compare("longestPalindromicPrefix()" + of, x.longestPalindromicPrefix(), y.longestPalindromicPrefix());
        compare("leastPeriod()" + of, x.leastPeriod(), y.leastPeriod());
        compare("isCentral()" + of, x.isCentral(), y.isCentral());
        for (int part = 0; part <= 2; part++) {
            compare("simplestSlope(" + part + ")" + of, x.simplestSlope(part), y.simplestSlope(part));
        }
    }

    private static void statesAlike(String call, SturmianWords x, Reference y) {
        compare("length() after " + call, x.length(), y.word.length());
        compare("slopeNumerator() after " + call, x.slopeNumerator(), y.p);
        compare("slopeDenominator() after " + call, x.slopeDenominator(), y.q);
        for (int i = 0; i < y.word.length(); i++) {
            compare("letterAt(" + i + ") after " + call, x.letterAt(i), y.word.charAt(i) - '0');
        }
    }

    // ---- runs of mixed calls

    private static void mixedRun(int run) {
        SturmianWords x = new SturmianWords();
        Reference y = new Reference();
        for (int call = 0; call < CALLS && wrong < 20; call++) {
            if (below(2) == 0) {
                edit(x, y);
            } else {
                query(x, y);
            }
        }
        statesAlike("run " + run, x, y);
        compare("the intercept after run " + run, x.setIntercept(0), y.setIntercept(0));
    }

    private static void edit(SturmianWords x, Reference y) {
        int a = 0;
        int b = 0;
        switch (below(16)) {
            case 0:
                b = from(1, below(2) == 0 ? 20 : 1000);
                a = from(0, Math.max(1, Math.min(b, 1000)));
                compare("setSlope(" + a + ", " + b + ")", x.setSlope(a, b), y.setSlope(a, b));
                break;
            case 1:
                a = from(0, y.q);
                compare("setIntercept(" + a + ")", x.setIntercept(a), y.setIntercept(a));
                break;
            case 2:
                a = from(0, 60);
                boolean upper = below(2) == 0;
                compare("loadMechanical(" + a + ", " + upper + ")", x.loadMechanical(a, upper), y.loadMechanical(a, upper));
                break;
            case 3:
                a = from(-1, 9);
                compare("loadStandard(" + a + ")", x.loadStandard(a), y.loadStandard(a));
                break;
            case 4:
                compare("removeLast()", x.removeLast(), y.removeLast());
                break;
            case 5:
                compare("clear()", x.clear(), y.clear());
                break;
            case 6:
                compare("reverse()", x.reverse(), y.reverse());
                break;
            case 7:
                a = from(0, 4);
                compare("applyMorphism(" + a + ")", x.applyMorphism(a), y.applyMorphism(a));
                break;
            case 8:
                a = from(0, 4);
                compare("invertMorphism(" + a + ")", x.invertMorphism(a), y.invertMorphism(a));
                break;
            case 9:
                compare("undo()", x.undo(), y.undo());
                break;
            default:
                a = from(0, 1);
                compare("append(" + a + ")", x.append(a), y.append(a));
                break;
        }
    }

    private static void query(SturmianWords x, Reference y) {
        int a = 0;
        int b = 0;
        switch (below(15)) {
            case 0:
                a = from(1, 8);
                compare("continuedFractionTerm(" + a + ")", x.continuedFractionTerm(a), y.continuedFractionTerm(a));
                break;
            case 1:
                a = from(0, 1000000);
                boolean upper = below(2) == 0;
                compare("mechanicalLetter(" + a + ")", x.mechanicalLetter(a, upper), y.mechanicalLetter(a, upper));
                break;
            case 2:
                compare("weight()", x.weight(), y.weight());
                break;
            case 3:
                a = from(0, 60);
                compare("letterAt(" + a + ")", x.letterAt(a), y.letterAt(a));
                break;
            case 4:
                a = from(0, 61);
                compare("factorCount(" + a + ")", x.factorCount(a), y.factorCount(a));
                break;
            case 5:
            case 6:
                a = from(1, 30);
                b = from(0, 20);
                compare("factorAt(" + a + ", " + b + ") of " + y.word, x.factorAt(a, b), y.factorAt(a, b));
                break;
            case 7:
                compare("unbalancedLength()", x.unbalancedLength(), y.unbalancedLength());
                break;
            case 8:
                compare("palindromeCount()", x.palindromeCount(), y.palindromeCount());
                break;
            case 9:
                compare("longestPalindromicPrefix()", x.longestPalindromicPrefix(), y.longestPalindromicPrefix());
                break;
            case 10:
                compare("leastPeriod()", x.leastPeriod(), y.leastPeriod());
                break;
            case 11:
                compare("isCentral()", x.isCentral(), y.isCentral());
                break;
            case 12:
                a = from(0, 2);
                compare("simplestSlope(" + a + ") of " + y.word, x.simplestSlope(a), y.simplestSlope(a));
                break;
            case 13:
                a = from(1, below(2) == 0 ? 30 : 1000);
                b = from(0, 3);
                compare("gapSizeCount(" + a + ")", x.gapSizeCount(a), y.gapSizeCount(a));
                compare("gapSize(" + a + ", " + b + ")", x.gapSize(a, b), y.gapSize(a, b));
                compare("gapsOfSize(" + a + ", " + b + ")", x.gapsOfSize(a, b), y.gapsOfSize(a, b));
                break;
            default:
                compare("historySize()", x.historySize(), y.historySize());
                break;
        }
    }

    /** The document's words on strings, without a thought for speed. */
    private static final class Reference {
        private static final int INVALID = -1;
        private static final int LONG = -2;
        private static final int MISSING = -3;
        private static final String[][] MORPHISMS = {{"1", "0"}, {"01", "0"}, {"10", "0"}, {"0", "01"}, {"0", "10"}};

        private int p = 5;
        private int q = 13;
        private int c = 0;
        private String word = "";
        private final ArrayDeque<Object[]> past = new ArrayDeque<>();

        void edited() {
            past.addLast(new Object[] {p, q, c, word});
            if (past.size() > 6) {
                past.removeFirst();
            }
        }

        int undo() {
            if (past.isEmpty()) {
                return MISSING;
            }
            Object[] before = past.removeLast();
            p = (Integer) before[0];
            q = (Integer) before[1];
            c = (Integer) before[2];
            word = (String) before[3];
            return past.size();
        }

        int historySize() {
            return past.size();
        }

        static boolean coprime(int a, int b) {
            for (int t = 2; t <= Math.max(a, b); t++) {
                if (a % t == 0 && b % t == 0) {
                    return false;
                }
            }
            return true;
        }

        int setSlope(int a, int b) {
            if (b < 1 || b > 1000 || a < 0 || a > b) {
                return INVALID;
            }
            edited();
            c = 0;
            for (q = 1; ; q++) {
                if ((long) a * q % b == 0) {
                    p = (int) ((long) a * q / b);
                    return q;
                }
            }
        }

        int setIntercept(int d) {
            if (d < 0 || d >= q) {
                return INVALID;
            }
            edited();
            int before = c;
            c = d;
            return before;
        }

        List<Integer> terms() {
            List<Integer> terms = new ArrayList<>();
            int over = p;
            int under = q;
            while (over != 0) {
                terms.add(under / over);
                int rest = under % over;
                under = over;
                over = rest;
            }
            return terms;
        }

        int continuedFractionTerm(int index) {
            if (index < 1) {
                return INVALID;
            }
            return index <= terms().size() ? terms().get(index - 1) : MISSING;
        }

        static int mechanical(long n, int a, int b, int d, boolean upper) {
            long next = (n + 1) * a + d;
            long here = n * a + d;
            return upper ? (int) (-Math.floorDiv(-next, (long) b) + Math.floorDiv(-here, (long) b))
                : (int) (Math.floorDiv(next, (long) b) - Math.floorDiv(here, (long) b));
        }

        int mechanicalLetter(int n, boolean upper) {
            return n < 0 || n > 1000000 ? INVALID : mechanical(n, p, q, c, upper);
        }

        int loadMechanical(int length, boolean upper) {
            if (length < 0) {
                return INVALID;
            }
            if (length > 60) {
                return LONG;
            }
            edited();
            word = "";
            for (int n = 0; n < length; n++) {
                word += mechanical(n, p, q, c, upper);
            }
            return weight();
        }

        String standard(int k) {
            if (k <= 0) {
                return k < 0 ? "1" : "0";
            }
            int times = k == 1 ? terms().get(0) - 1 : terms().get(k - 1);
            String before = standard(k - 1);
            return before.length() > 60 ? before : before.repeat(times) + standard(k - 2);
        }

        int loadStandard(int k) {
            if (k < -1) {
                return INVALID;
            }
            if (k > terms().size()) {
                return MISSING;
            }
            if (standard(k).length() > 60) {
                return LONG;
            }
            edited();
            word = standard(k);
            return word.length();
        }

        int append(int letter) {
            if (letter != 0 && letter != 1) {
                return INVALID;
            }
            if (word.length() == 60) {
                return LONG;
            }
            edited();
            word += letter;
            return word.length();
        }

        int removeLast() {
            if (word.isEmpty()) {
                return MISSING;
            }
            edited();
            int letter = word.charAt(word.length() - 1) - '0';
            word = word.substring(0, word.length() - 1);
            return letter;
        }

        int clear() {
            edited();
            int before = word.length();
            word = "";
            return before;
        }

        int reverse() {
            edited();
            String before = word;
            word = new StringBuilder(word).reverse().toString();
            return word.equals(before) ? 0 : 1;
        }

        static String image(String word, int morphism) {
            StringBuilder image = new StringBuilder();
            for (char letter : word.toCharArray()) {
                image.append(MORPHISMS[morphism][letter - '0']);
            }
            return image.toString();
        }

        int applyMorphism(int morphism) {
            if (morphism < 0 || morphism > 4) {
                return INVALID;
            }
            String image = image(word, morphism);
            if (image.length() > 60) {
                return LONG;
            }
            edited();
            word = image;
            return word.length();
        }

        /** A word with this image, sought by trying each letter first; null if there is none. */
        static String origin(String image, int morphism) {
            if (image.isEmpty()) {
                return "";
            }
            for (int letter = 0; letter <= 1; letter++) {
                String start = MORPHISMS[morphism][letter];
                String rest = image.startsWith(start) ? origin(image.substring(start.length()), morphism) : null;
                if (rest != null) {
                    return letter + rest;
                }
            }
            return null;
        }

        int invertMorphism(int morphism) {
            if (morphism < 0 || morphism > 4) {
                return INVALID;
            }
            String origin = origin(word, morphism);
            if (origin == null) {
                return MISSING;
            }
            edited();
            word = origin;
            return word.length();
        }

        static int weightOf(String letters) {
            return (int) letters.chars().filter(letter -> letter == '1').count();
        }

        int weight() {
            return weightOf(word);
        }

        int letterAt(int index) {
            if (index < 0) {
                return INVALID;
            }
            return index < word.length() ? word.charAt(index) - '0' : MISSING;
        }

        TreeSet<String> factors(int length) {
            TreeSet<String> factors = new TreeSet<>();
            for (int start = 0; start + (long) length <= word.length(); start++) {
                factors.add(word.substring(start, start + length));
            }
            return factors;
        }

        int factorCount(int length) {
            return length < 0 ? INVALID : factors(length).size();
        }

        int factorAt(int length, int index) {
            if (length < 1 || length > 30 || index < 0) {
                return INVALID;
            }
            List<String> factors = new ArrayList<>(factors(length));
            return index < factors.size() ? Integer.parseInt(factors.get(index), 2) : MISSING;
        }

        int unbalancedLength() {
            for (int length = 1; length <= word.length(); length++) {
                TreeSet<Integer> weights = new TreeSet<>();
                for (String factor : factors(length)) {
                    weights.add(weightOf(factor));
                }
                if (weights.last() - weights.first() >= 2) {
                    return length;
                }
            }
            return MISSING;
        }

        static boolean palindrome(String letters) {
            return new StringBuilder(letters).reverse().toString().equals(letters);
        }

        int palindromeCount() {
            int found = 0;
            for (int length = 0; length <= word.length(); length++) {
                for (String factor : factors(length)) {
                    found += palindrome(factor) ? 1 : 0;
                }
            }
            return found;
        }

        int longestPalindromicPrefix() {
            int longest = 0;
            for (int length = 0; length <= word.length(); length++) {
                longest = palindrome(word.substring(0, length)) ? length : longest;
            }
            return longest;
        }

        boolean period(int t) {
            for (int i = 0; i < word.length() - t; i++) {
                if (word.charAt(i) != word.charAt(i + t)) {
                    return false;
                }
            }
            return true;
        }

        int leastPeriod() {
            for (int t = 1; t <= word.length(); t++) {
                if (period(t)) {
                    return t;
                }
            }
            return MISSING;
        }

        int isCentral() {
            int n = word.length();
            for (int t = 1; t <= n + 1; t++) {
                for (int u = 1; u <= n + 1; u++) {
                    if (t + u == n + 2 && period(t) && period(u) && coprime(t, u)) {
                        return 1;
                    }
                }
            }
            return 0;
        }

        boolean begins(int a, int b, int d) {
            for (int n = 0; n < word.length(); n++) {
                if (mechanical(n, a, b, d, false) != word.charAt(n) - '0') {
                    return false;
                }
            }
            return true;
        }

        int simplestSlope(int part) {
            if (part < 0 || part > 2) {
                return INVALID;
            }
            for (int b = 1; b <= 61; b++) {
                for (int a = 0; a <= b; a++) {
                    for (int d = 0; d < b; d++) {
                        if (begins(a, b, d) && coprime(a, b)) {
                            return part == 0 ? a : part == 1 ? b : d;
                        }
                    }
                }
            }
            return MISSING;
        }

        TreeMap<Integer, Integer> gaps(int m) {
            TreeSet<Integer> points = new TreeSet<>();
            for (int k = 0; k < m; k++) {
                points.add(k * p % q);
            }
            TreeMap<Integer, Integer> gaps = new TreeMap<>();
            for (int point : points) {
                Integer next = points.higher(point);
                gaps.merge(next == null ? points.first() + q - point : next - point, 1, Integer::sum);
            }
            return gaps;
        }

        int gapSizeCount(int m) {
            return m < 1 || m > 1000 ? INVALID : gaps(m).size();
        }

        int gapSize(int m, int index) {
            if (m < 1 || m > 1000 || index < 0) {
                return INVALID;
            }
            List<Integer> sizes = new ArrayList<>(gaps(m).keySet());
            return index < sizes.size() ? sizes.get(index) : MISSING;
        }

        int gapsOfSize(int m, int size) {
            return m < 1 || m > 1000 || size < 1 ? INVALID : gaps(m).getOrDefault(size, 0);
        }
    }
}
