public final class Promise06ClearTest {
    public static void main(String[] args) {
        Check check = new Check();
        EnclosureCalculator x = Check.with("1", "a+1", "b+1", "c", "d", "e", "f", "g");
        x.evaluate(2, 4, 4);
        Check.typeText(x, "a+");
        x.clear();
        check.due("cleared: length()", x.length(), 0);
        check.due("cleared: erase()", x.erase(), false);
        for (int name = 0; name < 8; name++) {
            check.due("cleared: parts(" + name + ")", x.parts(name), EnclosureCalculator.REFUSED);
            check.due("cleared: compare", x.compare(name, name, 0, 1), EnclosureCalculator.REFUSED);
        }
        check.result("cleared", x, -1, 0, 0);
        check.due("cleared: decimal(2)", x.decimal(2), 0);
        check.due("cleared: work()", x.work(), 0);
        check.due("cleared, a: define(0)", Check.define(x, 0, "a"), EnclosureCalculator.UNKNOWN);
        x.clear();
        partsAreTakenAway(check, x);
        x.clear();
        x.clear();
        check.due("cleared twice: parts(0)", x.parts(0), EnclosureCalculator.REFUSED);
        check.due("cleared twice: define(3)", Check.define(x, 3, "8/2"), 3);
        check.due("cleared twice: evaluate(3, 2, 1)", x.evaluate(3, 2, 1), EnclosureCalculator.DONE);
        check.result("cleared twice", x, 2, 16, 16);
        check.end("Promise06ClearTest");
    }

    private static void partsAreTakenAway(Check check, EnclosureCalculator x) {
        for (int round = 0; round < 3; round++) {
            for (int i = 0; i < 4; i++) {
                check.due("twenty parts", Check.define(x, i, "-------------------2"), 20);
            }
            check.due("one part more", Check.define(x, 0, "2"), EnclosureCalculator.FULL);
            x.clear();
        }
    }
}
