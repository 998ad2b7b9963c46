/**
 * A calculator over real numbers that never answers more than it knows: an expression is worked
 * out with intervals whose ends are rounded outwards, at finer and finer steps, until the interval
 * is as narrow as was asked for, or the fuel is used up.
 */
public final class EnclosureCalculator {
    public static final int REFUSED = -1;
    public static final int SYNTAX = -2;
    public static final int UNKNOWN = -3;
    public static final int FULL = -4;
    public static final int NO_ANSWER = 0;
    public static final int DONE = 1;
    public static final int DOMAIN = 2;
    public static final int LESS = 3;
    public static final int GREATER = 4;
    public static final int CLOSE = 5;

    private static final int NONE = -1;
    private static final int NO_FAULT = 0;
    private static final int TEXT_LIMIT = 20;
    private static final int NAME_LIMIT = 8;
    private static final int PRECISION_LIMIT = 16;
    private static final int FUEL_LIMIT = 20;
    private static final int STEP_LIMIT = 18;
    private static final long[] POWERS_OF_TEN = {1, 10, 100, 1000, 10000, 100000, 1000000};

    private final char[] text = new char[TEXT_LIMIT];
    private int textSize;
    private final Parts store = new Parts();
    private final int[] named = new int[NAME_LIMIT];
    private final Spans spans = new Spans();
    private int latestWork;
    private int resultStep;
    private long resultLow;
    private long resultHigh;

    public EnclosureCalculator() {
        forgetAll();
    }

    public boolean type(int c) {
        if (textSize >= TEXT_LIMIT || !isTypable(c)) {
            return false;
        }
        text[textSize] = (char) c;
        textSize++;
        return true;
    }

    public boolean erase() {
        if (textSize <= 0) {
            return false;
        }
        textSize--;
        return true;
    }

    public int length() {
        return textSize;
    }

    public int define(int name) {
        if (!isName(name)) {
            return REFUSED;
        }
        int before = store.count();
        Reader reader = new Reader(text, textSize, named, store);
        int top = reader.readSum(0);
        int fault = faultOf(reader, top);
        if (fault != NO_FAULT) {
            store.shrinkTo(before);
            return fault;
        }
        named[name] = top;
        textSize = 0;
        return store.count() - before;
    }

    public void clear() {
        forgetAll();
    }

    public int parts(int name) {
        if (!isGiven(name)) {
            return REFUSED;
        }
        return spans.choose(store, named[name], named[name]);
    }

    public int evaluate(int name, int p, int fuel) {
        if (!isGiven(name) || !isTrial(p, fuel)) {
            return REFUSED;
        }
        forgetResult();
        int top = named[name];
        int answer = trySteps(top, top, p, fuel, false);
        if (answer == DONE) {
            keepResult(top);
        }
        return answer;
    }

    public int compare(int x, int y, int p, int fuel) {
        if (!isGiven(x) || !isGiven(y) || !isTrial(p, fuel)) {
            return REFUSED;
        }
        return trySteps(named[x], named[y], p, fuel, true);
    }

    public int work() {
        return latestWork;
    }

    public int step() {
        return resultStep == NONE ? REFUSED : resultStep;
    }

    public long low() {
        return resultLow;
    }

    public long high() {
        return resultHigh;
    }

    public long decimal(int d) {
        if (resultStep == NONE || d < 0 || d >= POWERS_OF_TEN.length) {
            return 0;
        }
        long twiceTheMiddle = (resultLow + resultHigh) * POWERS_OF_TEN[d];
        // Half is added before the floor is taken, so that of two equally near the greater is met,
        // below 0 too.
        return (twiceTheMiddle + (1L << resultStep)) >> (resultStep + 1);
    }

    private static boolean isTypable(int c) {
        switch (c) {
            case '+':
            case '-':
            case '*':
            case '/':
            case '^':
            case '(':
            case ')':
            case 'r':
                return true;
            default:
                return isDigit(c) || isLetter(c);
        }
    }

    private static boolean isDigit(int c) {
        return c >= '0' && c <= '9';
    }

    private static boolean isLetter(int c) {
        return c >= 'a' && c <= 'h';
    }

    private static boolean isName(int name) {
        return name >= 0 && name < NAME_LIMIT;
    }

    private boolean isGiven(int name) {
        return isName(name) && named[name] != NONE;
    }

    private static boolean isTrial(int p, int fuel) {
        return p >= 0 && p <= PRECISION_LIMIT && fuel >= 1 && fuel <= FUEL_LIMIT;
    }

    private void forgetAll() {
        textSize = 0;
        store.shrinkTo(0);
        for (int name = 0; name < NAME_LIMIT; name++) {
            named[name] = NONE;
        }
        latestWork = 0;
        forgetResult();
    }

    private void forgetResult() {
        resultStep = NONE;
        resultLow = 0;
        resultHigh = 0;
    }

    private void keepResult(int top) {
        resultStep = spans.latestStep();
        resultLow = spans.lowOf(top);
        resultHigh = spans.highOf(top);
    }

    private int faultOf(Reader reader, int top) {
        if (top == NONE || !reader.isAtEnd()) {
            return SYNTAX;
        }
        if (reader.metUnknownLetter()) {
            return UNKNOWN;
        }
        return store.isOverfull() ? FULL : NO_FAULT;
    }

    private int trySteps(int x, int y, int p, int fuel, boolean comparing) {
        int last = Math.min(p + fuel - 1, STEP_LIMIT);
        int chosen = spans.choose(store, x, y);
        int answer = NO_ANSWER;
        latestWork = 0;
        for (int w = p; w <= last && answer == NO_ANSWER; w++) {
            spans.workOut(store, w);
            latestWork += chosen;
            long width = 1L << (w - p);
            answer = comparing ? judgeTwo(x, y, width) : judgeOne(x, width);
        }
        return answer;
    }

    private int judgeOne(int top, long width) {
        if (spans.isFalse(top)) {
            return DOMAIN;
        }
        if (!spans.hasSpan(top)) {
            return NO_ANSWER;
        }
        return spans.highOf(top) - spans.lowOf(top) <= width ? DONE : NO_ANSWER;
    }

    private int judgeTwo(int x, int y, long width) {
        if (spans.isFalse(x) || spans.isFalse(y)) {
            return DOMAIN;
        }
        if (!spans.hasSpan(x) || !spans.hasSpan(y)) {
            return NO_ANSWER;
        }
        if (spans.highOf(x) < spans.lowOf(y)) {
            return LESS;
        }
        if (spans.lowOf(x) > spans.highOf(y)) {
            return GREATER;
        }
        long greatest = Math.max(spans.highOf(x), spans.highOf(y));
        long least = Math.min(spans.lowOf(x), spans.lowOf(y));
        return greatest - least <= width ? CLOSE : NO_ANSWER;
    }

    /** All parts that were made, in the order of making: an operand stands before its part. */
    private static final class Parts {
        static final int LIMIT = 80;

        static final int WHOLE = 0;
        static final int NEGATIVE = 1;
        static final int SUM = 2;
        static final int DIFFERENCE = 3;
        static final int PRODUCT = 4;
        static final int QUOTIENT = 5;
        static final int SQUARE = 6;
        static final int ROOT = 7;

        private final int[] sorts = new int[LIMIT];
        private final int[] values = new int[LIMIT];
        private final int[] firsts = new int[LIMIT];
        private final int[] seconds = new int[LIMIT];
        private int made;

        int count() {
            return made;
        }

        boolean isOverfull() {
            return made > LIMIT;
        }

        void shrinkTo(int count) {
            made = count;
        }

        int makeWhole(int value) {
            return make(WHOLE, value, NONE, NONE);
        }

        int makeOfOne(int sort, int operand) {
            return make(sort, 0, operand, NONE);
        }

        int makeOfTwo(int sort, int first, int second) {
            return make(sort, 0, first, second);
        }

        // Parts beyond the limit are counted but not kept: a text must be read to its end before
        // it is known whether it is refused for that, and the count is taken back then.
        private int make(int sort, int value, int first, int second) {
            int part = made;
            if (part < LIMIT) {
                sorts[part] = sort;
                values[part] = value;
                firsts[part] = first;
                seconds[part] = second;
            }
            made++;
            return part;
        }

        static boolean has(int part) {
            return part >= 0 && part < LIMIT;
        }

        int sortOf(int part) {
            return has(part) ? sorts[part] : WHOLE;
        }

        int valueOf(int part) {
            return has(part) ? values[part] : 0;
        }

        int firstOf(int part) {
            return has(part) ? firsts[part] : NONE;
        }

        int secondOf(int part) {
            return has(part) ? seconds[part] : NONE;
        }
    }

    /** Reads a text by the grammar and makes its parts; NONE is answered where it does not fit. */
    private static final class Reader {
        private static final int OPEN_LIMIT = 6;
        private static final int DIGIT_LIMIT = 3;
        private static final char END = 0;

        private final char[] text;
        private final int size;
        private final int[] named;
        private final Parts store;
        private int position;
        private boolean unknownLetter;

        Reader(char[] text, int size, int[] named, Parts store) {
            this.text = text;
            this.size = size;
            this.named = named;
            this.store = store;
        }

        boolean isAtEnd() {
            return position == size;
        }

        boolean metUnknownLetter() {
            return unknownLetter;
        }

        private char current() {
            return position < size && position < text.length ? text[position] : END;
        }

        int readSum(int open) {
            int left = readTerm(open);
            for (int i = 0; i < TEXT_LIMIT && left != NONE; i++) {
                char sign = current();
                if (sign != '+' && sign != '-') {
                    break;
                }
                position++;
                int right = readTerm(open);
                left = join(sign == '+' ? Parts.SUM : Parts.DIFFERENCE, left, right);
            }
            return left;
        }

        private int readTerm(int open) {
            int left = readFactor(open);
            for (int i = 0; i < TEXT_LIMIT && left != NONE; i++) {
                char sign = current();
                if (sign != '*' && sign != '/') {
                    break;
                }
                position++;
                int right = readFactor(open);
                left = join(sign == '*' ? Parts.PRODUCT : Parts.QUOTIENT, left, right);
            }
            return left;
        }

        private int join(int sort, int left, int right) {
            return right == NONE ? NONE : store.makeOfTwo(sort, left, right);
        }

        private int readFactor(int open) {
            int signs = 0;
            while (signs < TEXT_LIMIT && current() == '-') {
                position++;
                signs++;
            }
            int factor = readAtom(open);
            if (factor != NONE && current() == '^') {
                position++;
                factor = readPower(factor);
            }
            for (int i = 0; i < signs && factor != NONE; i++) {
                factor = store.makeOfOne(Parts.NEGATIVE, factor);
            }
            return factor;
        }

        private int readPower(int base) {
            int exponent = current() - '0';
            if (exponent < 2 || exponent > 5) {
                return NONE;
            }
            position++;
            // The square serves 2 and 3, its own square 4 and 5; an odd power takes the base once more.
            int power = store.makeOfOne(Parts.SQUARE, base);
            if (exponent >= 4) {
                power = store.makeOfOne(Parts.SQUARE, power);
            }
            boolean odd = exponent % 2 == 1;
            return odd ? store.makeOfTwo(Parts.PRODUCT, power, base) : power;
        }

        private int readAtom(int open) {
            char c = current();
            if (isDigit(c)) {
                return readNumber();
            }
            if (isLetter(c)) {
                return readLetter();
            }
            if (c != 'r') {
                return readBracket(open);
            }
            position++;
            int operand = readBracket(open);
            return operand == NONE ? NONE : store.makeOfOne(Parts.ROOT, operand);
        }

        private int readNumber() {
            int value = 0;
            for (int i = 0; i < DIGIT_LIMIT && isDigit(current()); i++) {
                value = value * 10 + (current() - '0');
                position++;
            }
            return store.makeWhole(value);
        }

        private int readLetter() {
            int name = current() - 'a';
            position++;
            int top = name >= 0 && name < named.length ? named[name] : NONE;
            if (top != NONE) {
                return top;
            }
            // The grammar comes before the names: reading goes on with any part in its place.
            unknownLetter = true;
            return 0;
        }

        private int readBracket(int open) {
            if (current() != '(' || open >= OPEN_LIMIT) {
                return NONE;
            }
            position++;
            int inner = readSum(open + 1);
            if (inner == NONE || current() != ')') {
                return NONE;
            }
            position++;
            return inner;
        }
    }

    /** What the chosen parts are at the latest step: FALSE, OPEN or a span, in units of it. */
    private static final class Spans {
        private static final int SPAN = 0;
        private static final int FALSE = 1;
        private static final int OPEN = 2;
        // It keeps ends within 2^30 units at the finest step, so that what is made of two of them
        // fits a long.
        private static final long END_LIMIT = 4096;
        // The highest bit of a root: what roots are taken of has fewer than 62 bits.
        private static final int ROOT_BIT = 30;

        private final boolean[] chosen = new boolean[Parts.LIMIT];
        private final int[] states = new int[Parts.LIMIT];
        private final long[] lows = new long[Parts.LIMIT];
        private final long[] highs = new long[Parts.LIMIT];
        private int step;

        /** Chooses the parts of both expressions and answers how many they are. */
        int choose(Parts store, int x, int y) {
            for (int part = 0; part < Parts.LIMIT; part++) {
                chosen[part] = part == x || part == y;
            }
            int count = 0;
            // Downwards, a part is met before its operands.
            for (int part = Parts.LIMIT - 1; part >= 0; part--) {
                if (chosen[part]) {
                    count++;
                    chooseOperand(store.firstOf(part));
                    chooseOperand(store.secondOf(part));
                }
            }
            return count;
        }

        private void chooseOperand(int part) {
            if (Parts.has(part)) {
                chosen[part] = true;
            }
        }

        void workOut(Parts store, int atStep) {
            step = atStep;
            // Upwards, the operands are worked out before their part.
            for (int part = 0; part < Parts.LIMIT; part++) {
                if (chosen[part]) {
                    workOutPart(store, part);
                }
            }
        }

        int latestStep() {
            return step;
        }

        boolean isFalse(int part) {
            return Parts.has(part) && states[part] == FALSE;
        }

        private boolean isOpen(int part) {
            return Parts.has(part) && states[part] == OPEN;
        }

        boolean hasSpan(int part) {
            return Parts.has(part) && states[part] == SPAN;
        }

        long lowOf(int part) {
            return Parts.has(part) ? lows[part] : 0;
        }

        long highOf(int part) {
            return Parts.has(part) ? highs[part] : 0;
        }

        private void workOutPart(Parts store, int part) {
            int x = store.firstOf(part);
            int y = store.secondOf(part);
            if (isFalse(x) || isFalse(y)) {
                setState(part, FALSE);
                return;
            }
            if (isOpen(x) || isOpen(y)) {
                setState(part, OPEN);
                return;
            }
            switch (store.sortOf(part)) {
                case Parts.WHOLE:
                    setWhole(part, store.valueOf(part));
                    break;
                case Parts.NEGATIVE:
                    setSpan(part, -highOf(x), -lowOf(x));
                    break;
                case Parts.SUM:
                    setSpan(part, lowOf(x) + lowOf(y), highOf(x) + highOf(y));
                    break;
                case Parts.DIFFERENCE:
                    setSpan(part, lowOf(x) - highOf(y), highOf(x) - lowOf(y));
                    break;
                case Parts.PRODUCT:
                    multiply(part, x, y);
                    break;
                case Parts.QUOTIENT:
                    divide(part, x, y);
                    break;
                case Parts.SQUARE:
                    square(part, x);
                    break;
                default:
                    takeRoot(part, x);
                    break;
            }
        }

        private void setState(int part, int state) {
            if (Parts.has(part)) {
                states[part] = state;
            }
        }

        private void setSpan(int part, long low, long high) {
            if (!Parts.has(part)) {
                return;
            }
            long limit = END_LIMIT << step;
            states[part] = high > limit || low < -limit ? OPEN : SPAN;
            lows[part] = low;
            highs[part] = high;
        }

        private void setWhole(int part, long value) {
            setSpan(part, value << step, value << step);
        }

        // A product of two numbers of units is a number of squared units: both ends go back to
        // units by outward rounding.
        private void setSpanOfSquaredUnits(int part, long low, long high) {
            setSpan(part, low >> step, -(-high >> step));
        }

        private void multiply(int part, int x, int y) {
            long a = lowOf(x) * lowOf(y);
            long b = lowOf(x) * highOf(y);
            long c = highOf(x) * lowOf(y);
            long d = highOf(x) * highOf(y);
            long least = Math.min(Math.min(a, b), Math.min(c, d));
            long greatest = Math.max(Math.max(a, b), Math.max(c, d));
            setSpanOfSquaredUnits(part, least, greatest);
        }

        private void square(int part, int x) {
            long a = lowOf(x) * lowOf(x);
            long b = highOf(x) * highOf(x);
            boolean holdsZero = lowOf(x) <= 0 && highOf(x) >= 0;
            setSpanOfSquaredUnits(part, holdsZero ? 0 : Math.min(a, b), Math.max(a, b));
        }

        private void divide(int part, int x, int y) {
            if (lowOf(y) <= 0 && highOf(y) >= 0) {
                setState(part, OPEN);
                return;
            }
            long low = Math.min(leastRatio(x, lowOf(y)), leastRatio(x, highOf(y)));
            long high = Math.max(greatestRatio(x, lowOf(y)), greatestRatio(x, highOf(y)));
            setSpan(part, low, high);
        }

        private long leastRatio(int x, long divisor) {
            return Math.min(floorRatio(lowOf(x), divisor), floorRatio(highOf(x), divisor));
        }

        private long greatestRatio(int x, long divisor) {
            return Math.max(-floorRatio(-lowOf(x), divisor), -floorRatio(-highOf(x), divisor));
        }

        private long floorRatio(long dividend, long divisor) {
            return divisor == 0 ? 0 : Math.floorDiv(dividend << step, divisor);
        }

        private void takeRoot(int part, int x) {
            if (highOf(x) < 0) {
                setState(part, FALSE);
                return;
            }
            if (lowOf(x) < 0) {
                setState(part, OPEN);
                return;
            }
            long low = floorRoot(lowOf(x) << step);
            long ofHigh = highOf(x) << step;
            long high = floorRoot(ofHigh);
            setSpan(part, low, high * high < ofHigh ? high + 1 : high);
        }

        private static long floorRoot(long square) {
            long root = 0;
            for (int bit = ROOT_BIT; bit >= 0; bit--) {
                long tried = root + (1L << bit);
                if (tried * tried <= square) {
                    root = tried;
                }
            }
            return root;
        }
    }
}
