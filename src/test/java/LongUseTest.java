/** Every call with far numbers, and far more calls than an object is used for: none may throw. */
public final class LongUseTest {
    private static final int[] NUMBERS = {
        Integer.MIN_VALUE, Integer.MIN_VALUE + 1, -65536, -2, -1, 0, 1, 7, 8, 16, 17, 18, 19, 20, 21, 31, 32, 63, 64,
        65536, Integer.MAX_VALUE - 1, Integer.MAX_VALUE
    };
    private static final String TYPABLE = "1()r^5-*";

    public static void main(String[] args) {
        Check check = new Check();
        farNumbers(new EnclosureCalculator());
        farNumbers(Check.with("1/3", "r(-1)", "r(2)", "1/0"));
        deepTexts(check);
        EnclosureCalculator x = new EnclosureCalculator();
        for (int i = 0; i < 20000; i++) {
            Check.define(x, i % 8, i % 3 == 0 ? "a*a+r(b)" : "1/7");
            x.evaluate(i % 8, i % 17, 1 + i % 20);
            x.compare(i % 8, (i + 3) % 8, i % 17, 1 + i % 20);
            Check.eraseText(x);
        }
        check.end("LongUseTest");
    }

    private static void farNumbers(EnclosureCalculator x) {
        for (int i : NUMBERS) {
            x.type(i);
            x.define(i);
            x.parts(i);
            x.decimal(i);
            for (int j : NUMBERS) {
                for (int k : NUMBERS) {
                    x.evaluate(i, j, k);
                    x.compare(0, i, j, k);
                    x.compare(i, 2, j, k);
                }
            }
        }
    }

    /** The deepest brackets, and every text of six of the characters. */
    private static void deepTexts(Check check) {
        EnclosureCalculator x = new EnclosureCalculator();
        Check.typeText(x, "((((((((((((((((((((");
        check.due("twenty brackets: define(0)", x.define(0), EnclosureCalculator.SYNTAX);
        Check.eraseText(x);
        Check.typeText(x, "r(r(r(r(r(r(r(r(r(r(");
        check.due("ten roots: define(0)", x.define(0), EnclosureCalculator.SYNTAX);
        for (int number = 0; number < 1 << 18; number++) {
            Check.eraseText(x);
            for (int i = 0; i < 18; i += 3) {
                x.type(TYPABLE.charAt(number >> i & 7));
            }
            if (x.define(0) >= 0) {
                x.evaluate(0, 3, 3);
                x.clear();
            }
        }
    }
}
