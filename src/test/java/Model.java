import java.math.BigDecimal;
import java.math.BigInteger;
import java.math.RoundingMode;
import java.util.ArrayList;
import java.util.Collections;
import java.util.HashMap;
import java.util.IdentityHashMap;
import java.util.List;
import java.util.Map;
import java.util.Set;

/**
 * A second calculator, slow and written apart from the first: texts are read by trying every place
 * where the grammar lets them fall apart, and spans are worked out with exact numbers without a bound.
 */
final class Model {
    private static final class Part {
        final String sort;
        final int value;
        final List<Part> operands;

        Part(String sort, int value, Part... operands) {
            this.sort = sort;
            this.value = value;
            this.operands = List.of(operands);
        }
    }

    private record Span(BigInteger low, BigInteger high) {}

    /** The parts of a text that fits, before it is known whether its letters are given. */
    private record Read(Part top, int made, boolean unknown) {}

    private static final Span FALSE = new Span(BigInteger.ONE, BigInteger.ZERO);
    private static final Span OPEN = new Span(BigInteger.TWO, BigInteger.ZERO);
    private static final Part STAND_IN = new Part("whole", 0);

    private final StringBuilder text = new StringBuilder();
    private final Map<Integer, Part> names = new HashMap<>();
    private int madeInAll;
    private int work;
    private Span result;
    private int resultStep;

    boolean type(int c) {
        if (text.length() == 20 || c < 0 || c > 127 || "0123456789abcdefghr+-*/^()".indexOf(c) < 0) {
            return false;
        }
        text.append((char) c);
        return true;
    }

    boolean erase() {
        if (text.length() == 0) {
            return false;
        }
        text.setLength(text.length() - 1);
        return true;
    }

    int length() {
        return text.length();
    }

    int define(int name) {
        if (name < 0 || name > 7) {
            return -1;
        }
        Read read = mostOpen() > 6 ? null : sum(text.toString());
        if (read == null) {
            return -2;
        }
        if (read.unknown) {
            return -3;
        }
        if (madeInAll + read.made > 80) {
            return -4;
        }
        names.put(name, read.top);
        madeInAll += read.made;
        text.setLength(0);
        return read.made;
    }

    void clear() {
        text.setLength(0);
        names.clear();
        madeInAll = 0;
        work = 0;
        result = null;
    }

    int parts(int name) {
        return names.containsKey(name) ? partsOf(names.get(name)).size() : -1;
    }

    int evaluate(int name, int p, int fuel) {
        if (!names.containsKey(name) || p < 0 || p > 16 || fuel < 1 || fuel > 20) {
            return -1;
        }
        Part top = names.get(name);
        int count = partsOf(top).size();
        work = 0;
        result = null;
        for (int w = p; w < p + fuel && w <= 18; w++) {
            work += count;
            Span span = span(top, w, new IdentityHashMap<>());
            if (span == FALSE) {
                return 2;
            }
            if (span != OPEN && isAtMost(span.high.subtract(span.low), w, p)) {
                result = span;
                resultStep = w;
                return 1;
            }
        }
        return 0;
    }

    int compare(int x, int y, int p, int fuel) {
        if (!names.containsKey(x) || !names.containsKey(y) || p < 0 || p > 16 || fuel < 1 || fuel > 20) {
            return -1;
        }
        int count = partsOf(names.get(x), names.get(y)).size();
        work = 0;
        for (int w = p; w < p + fuel && w <= 18; w++) {
            work += count;
            Span a = span(names.get(x), w, new IdentityHashMap<>());
            Span b = span(names.get(y), w, new IdentityHashMap<>());
            if (a == FALSE || b == FALSE) {
                return 2;
            }
            if (a == OPEN || b == OPEN) {
                continue;
            }
            if (a.high.compareTo(b.low) < 0) {
                return 3;
            }
            if (a.low.compareTo(b.high) > 0) {
                return 4;
            }
            if (isAtMost(a.high.max(b.high).subtract(a.low.min(b.low)), w, p)) {
                return 5;
            }
        }
        return 0;
    }

    int work() {
        return work;
    }

    int step() {
        return result == null ? -1 : resultStep;
    }

    long low() {
        return result == null ? 0 : result.low.longValueExact();
    }

    long high() {
        return result == null ? 0 : result.high.longValueExact();
    }

    long decimal(int d) {
        if (result == null || d < 0 || d > 6) {
            return 0;
        }
        BigDecimal unit = BigDecimal.ONE.divide(BigDecimal.valueOf(2).pow(resultStep));
        BigDecimal half = new BigDecimal("0.5");
        BigDecimal middle = new BigDecimal(result.low.add(result.high)).multiply(half).multiply(unit);
        return middle.movePointRight(d).add(half).setScale(0, RoundingMode.FLOOR).longValueExact();
    }

    private static boolean isAtMost(BigInteger units, int w, int p) {
        return units.compareTo(BigInteger.TWO.pow(w - p)) <= 0;
    }

    private static Set<Part> partsOf(Part... tops) {
        Set<Part> found = Collections.newSetFromMap(new IdentityHashMap<>());
        List<Part> open = new ArrayList<>(List.of(tops));
        while (!open.isEmpty()) {
            Part part = open.remove(open.size() - 1);
            if (found.add(part)) {
                open.addAll(part.operands);
            }
        }
        return found;
    }

    private int mostOpen() {
        int open = 0;
        int most = 0;
        for (int i = 0; i < text.length(); i++) {
            open += text.charAt(i) == '(' ? 1 : text.charAt(i) == ')' ? -1 : 0;
            most = Math.max(most, open);
        }
        return most;
    }

    // The last sign whose two sides both fit is the one that is taken last.
    private Read sum(String s) {
        for (int i = s.length() - 1; i > 0; i--) {
            if (s.charAt(i) == '+' || s.charAt(i) == '-') {
                Read right = term(s.substring(i + 1));
                Read left = right == null ? null : sum(s.substring(0, i));
                if (left != null) {
                    return two(s.charAt(i) == '+' ? "sum" : "difference", left, right);
                }
            }
        }
        return term(s);
    }

    private Read term(String s) {
        for (int i = s.length() - 1; i > 0; i--) {
            if (s.charAt(i) == '*' || s.charAt(i) == '/') {
                Read right = factor(s.substring(i + 1));
                Read left = right == null ? null : term(s.substring(0, i));
                if (left != null) {
                    return two(s.charAt(i) == '*' ? "product" : "quotient", left, right);
                }
            }
        }
        return factor(s);
    }

    private Read factor(String s) {
        if (s.startsWith("-")) {
            Read rest = factor(s.substring(1));
            return rest == null ? null : one("negative", rest);
        }
        if (s.matches(".*\\^[2-5]")) {
            Read base = atom(s.substring(0, s.length() - 2));
            return base == null ? null : power(base, s.charAt(s.length() - 1) - '0');
        }
        return atom(s);
    }

    private static Read power(Read base, int k) {
        if (k == 1) {
            return base;
        }
        if (k % 2 == 0) {
            return one("square", power(base, k / 2));
        }
        Read less = power(base, k - 1);
        return new Read(new Part("product", 0, less.top, base.top), less.made + 1, base.unknown);
    }

    private Read atom(String s) {
        if (s.matches("[0-9]{1,3}")) {
            return new Read(new Part("whole", Integer.parseInt(s)), 1, false);
        }
        if (s.matches("[a-h]")) {
            Part top = names.get(s.charAt(0) - 'a');
            return new Read(top == null ? STAND_IN : top, 0, top == null);
        }
        if (s.matches("r\\(.*\\)")) {
            Read inner = sum(s.substring(2, s.length() - 1));
            return inner == null ? null : one("root", inner);
        }
        return s.matches("\\(.*\\)") ? sum(s.substring(1, s.length() - 1)) : null;
    }

    private static Read one(String sort, Read x) {
        return new Read(new Part(sort, 0, x.top), x.made + 1, x.unknown);
    }

    private static Read two(String sort, Read x, Read y) {
        return new Read(new Part(sort, 0, x.top, y.top), x.made + y.made + 1, x.unknown || y.unknown);
    }

    private static Span span(Part part, int w, Map<Part, Span> known) {
        Span span = known.get(part);
        if (span == null) {
            List<Span> operands = new ArrayList<>();
            for (Part operand : part.operands) {
                operands.add(span(operand, w, known));
            }
            span = operands.contains(FALSE) ? FALSE : operands.contains(OPEN) ? OPEN : work(part, operands, w);
            known.put(part, span);
        }
        return span;
    }

    private static Span work(Part part, List<Span> of, int w) {
        BigInteger unit = BigInteger.TWO.pow(w);
        Span x = of.isEmpty() ? null : of.get(0);
        Span y = of.size() < 2 ? null : of.get(1);
        switch (part.sort) {
            case "whole":
                return least(w, BigInteger.ONE, BigInteger.valueOf(part.value).multiply(unit));
            case "negative":
                return least(w, BigInteger.ONE, x.low.negate(), x.high.negate());
            case "sum":
                return least(w, BigInteger.ONE, x.low.add(y.low), x.high.add(y.high));
            case "difference":
                return least(w, BigInteger.ONE, x.low.subtract(y.high), x.high.subtract(y.low));
            case "product":
                return least(w, unit, x.low.multiply(y.low), x.low.multiply(y.high), x.high.multiply(y.low),
                    x.high.multiply(y.high));
            case "square":
                boolean zero = x.low.signum() * x.high.signum() <= 0;
                return least(w, unit, x.low.pow(2), x.high.pow(2), zero ? BigInteger.ZERO : x.low.pow(2));
            case "quotient":
                if (y.low.signum() * y.high.signum() <= 0) {
                    return OPEN;
                }
                BigInteger divisors = y.low.multiply(y.high);
                return least(w, divisors, x.low.multiply(unit).multiply(y.low), x.low.multiply(unit).multiply(y.high),
                    x.high.multiply(unit).multiply(y.low), x.high.multiply(unit).multiply(y.high));
            default:
                return root(x, w, unit);
        }
    }

    private static Span root(Span x, int w, BigInteger unit) {
        if (x.high.signum() < 0) {
            return FALSE;
        }
        if (x.low.signum() < 0) {
            return OPEN;
        }
        BigInteger high = x.high.multiply(unit);
        BigInteger root = high.sqrt();
        BigInteger up = root.pow(2).equals(high) ? root : root.add(BigInteger.ONE);
        return least(w, BigInteger.ONE, x.low.multiply(unit).sqrt(), up);
    }

    /** The least interval in whole units that holds all results, each told as a dividend of the divisor > 0. */
    private static Span least(int w, BigInteger divisor, BigInteger... dividends) {
        List<BigInteger> all = List.of(dividends);
        BigInteger low = down(Collections.min(all), divisor);
        BigInteger high = down(Collections.max(all).negate(), divisor).negate();
        BigInteger limit = BigInteger.valueOf(4096).multiply(BigInteger.TWO.pow(w));
        boolean inside = low.negate().max(high).max(low).max(high.negate()).compareTo(limit) <= 0;
        return inside ? new Span(low, high) : OPEN;
    }

    private static BigInteger down(BigInteger dividend, BigInteger divisor) {
        BigInteger[] parts = dividend.divideAndRemainder(divisor);
        return parts[1].signum() < 0 ? parts[0].subtract(BigInteger.ONE) : parts[0];
    }
}
