public final class Promise04LengthTest {
    public static void main(String[] args) {
        Check check = new Check();
        EnclosureCalculator x = new EnclosureCalculator();
        for (int i = 0; i < 20; i++) {
            check.due("length()", x.length(), i);
            x.type('5');
        }
        check.due("full: length()", x.length(), 20);
        x.type('5');
        check.due("full, one more refused: length()", x.length(), 20);
        x.erase();
        check.due("one erased: length()", x.length(), 19);
        x.define(0);
        check.due("define refused: length()", x.length(), 19);
        x.clear();
        check.due("cleared: length()", x.length(), 0);
        Check.typeText(x, "5+5");
        check.due("5+5: length()", x.length(), 3);
        x.define(0);
        check.due("defined: length()", x.length(), 0);
        x.type('1');
        x.evaluate(0, 3, 3);
        x.compare(0, 0, 3, 3);
        x.parts(0);
        x.decimal(3);
        check.due("other calls: length()", x.length(), 1);
        check.end("Promise04LengthTest");
    }
}
