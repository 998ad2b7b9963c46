public final class Promise07PartsTest {
    public static void main(String[] args) {
        Check check = new Check();
        EnclosureCalculator x = Check.with("2", "a*a", "b+b-a", "a", "r(c)/d", "(c^5)^2", "1-1");
        int[] want = {1, 2, 4, 1, 6, 8, 3};
        for (int name = 0; name < want.length; name++) {
            check.due("parts(" + name + ")", x.parts(name), want[name]);
        }
        for (int name : new int[] {7, 8, -1, Integer.MAX_VALUE, Integer.MIN_VALUE}) {
            check.due("parts(" + name + ")", x.parts(name), EnclosureCalculator.REFUSED);
        }
        Check.define(x, 0, "1+2+3");
        check.due("redefined: parts(0)", x.parts(0), 5);
        check.due("with the old a: parts(2)", x.parts(2), 4);
        Check.define(x, 7, "a*c");
        check.due("the new a and the old one: parts(7)", x.parts(7), 1 + 5 + 4);
        changesNothing(check);
        aLongChain(check);
        check.end("Promise07PartsTest");
    }

    private static void changesNothing(Check check) {
        EnclosureCalculator x = Check.with("3", "a/7");
        x.evaluate(1, 5, 3);
        x.parts(0);
        x.parts(5);
        check.result("after parts", x, 5, 13, 14);
        check.due("after parts: work()", x.work(), 3);
    }

    private static void aLongChain(Check check) {
        EnclosureCalculator x = Check.with("1");
        for (int i = 1; i < 80; i++) {
            check.due("a+a: define(0)", Check.define(x, 0, "a*a"), 1);
            check.due("a chain: parts(0)", x.parts(0), i + 1);
        }
        check.due("a chain: evaluate(0, 16, 20)", x.evaluate(0, 16, 20), EnclosureCalculator.DONE);
        check.due("a chain: work()", x.work(), 80);
        check.due("a chain: low()", x.low(), 65536);
    }
}
