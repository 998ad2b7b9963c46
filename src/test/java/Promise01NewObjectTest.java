public final class Promise01NewObjectTest {
    public static void main(String[] args) {
        Check check = new Check();
        EnclosureCalculator x = new EnclosureCalculator();
        check.due("new: length()", x.length(), 0);
        check.due("new: erase()", x.erase(), false);
        check.due("new: define(0)", x.define(0), EnclosureCalculator.SYNTAX);
        for (int name = 0; name < 8; name++) {
            check.due("new: parts(" + name + ")", x.parts(name), EnclosureCalculator.REFUSED);
            check.due("new: evaluate(" + name + ", 0, 1)", x.evaluate(name, 0, 1), EnclosureCalculator.REFUSED);
            x.type('a' + name);
            check.due("new: define the letter " + name, x.define(name), EnclosureCalculator.UNKNOWN);
            x.erase();
        }
        check.result("new", x, -1, 0, 0);
        check.due("new: work()", x.work(), 0);
        for (int d = 0; d <= 6; d++) {
            check.due("new: decimal(" + d + ")", x.decimal(d), 0);
        }
        objectsDoNotShare(check);
        check.end("Promise01NewObjectTest");
    }

    private static void objectsDoNotShare(Check check) {
        EnclosureCalculator first = Check.with("1+2");
        first.evaluate(0, 0, 1);
        first.type('7');
        EnclosureCalculator second = new EnclosureCalculator();
        check.due("second: length()", second.length(), 0);
        check.due("second: parts(0)", second.parts(0), -1);
        check.result("second", second, -1, 0, 0);
        check.due("second: define(0)", Check.define(second, 0, "5"), 1);
        second.evaluate(0, 0, 1);
        check.result("first", first, 0, 3, 3);
        check.due("first: length()", first.length(), 1);
        check.due("first: parts(0)", first.parts(0), 3);
    }
}
