public final class Promise03EraseTest {
    public static void main(String[] args) {
        Check check = new Check();
        EnclosureCalculator x = new EnclosureCalculator();
        check.due("empty: erase()", x.erase(), false);
        check.due("empty: length()", x.length(), 0);
        Check.typeText(x, "123");
        check.due("123: erase()", x.erase(), true);
        check.due("12: length()", x.length(), 2);
        check.due("12: define(0)", x.define(0), 1);
        x.evaluate(0, 0, 1);
        check.due("12: low()", x.low(), 12);
        check.due("after define: erase()", x.erase(), false);
        eraseAWholeText(check, x);
        check.end("Promise03EraseTest");
    }

    private static void eraseAWholeText(Check check, EnclosureCalculator x) {
        Check.typeText(x, "11111111111111111111");
        for (int left = 19; left >= 0; left--) {
            check.due("erase() to " + left, x.erase(), true);
            check.due("length()", x.length(), left);
        }
        check.due("erased: erase()", x.erase(), false);
        check.due("erased: length()", x.length(), 0);
        check.due("erased: define(1)", x.define(1), EnclosureCalculator.SYNTAX);
        check.due("erased: type(52)", x.type('4'), true);
        check.due("erased: define(1)", x.define(1), 1);
        x.evaluate(1, 0, 1);
        check.due("4: low()", x.low(), 4);
    }
}
