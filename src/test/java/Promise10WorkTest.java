public final class Promise10WorkTest {
    public static void main(String[] args) {
        Check check = new Check();
        EnclosureCalculator x = Check.with("1/3", "a+a+a", "a*b", "1/0", "7", "r(-1)");
        check.due("no evaluate yet: work()", x.work(), 0);
        x.evaluate(6, 0, 1);
        x.compare(0, 6, 0, 1);
        x.parts(1);
        check.due("refused alone: work()", x.work(), 0);
        x.evaluate(0, 3, 5);
        check.due("DONE at the first step: work()", x.work(), 3);
        x.evaluate(1, 3, 5);
        check.due("DONE at the third step: work()", x.work(), 5 * 3);
        x.evaluate(3, 3, 5);
        check.due("NO_ANSWER after five steps: work()", x.work(), 3 * 5);
        x.evaluate(3, 16, 5);
        check.due("NO_ANSWER, none above 18: work()", x.work(), 3 * 3);
        x.evaluate(3, 0, 20);
        check.due("NO_ANSWER, all steps: work()", x.work(), 3 * 19);
        x.evaluate(5, 0, 20);
        check.due("DOMAIN at the first step: work()", x.work(), 3);
        x.evaluate(0, 0, 21);
        x.evaluate(0, 17, 1);
        x.compare(0, 0, 0, 0);
        check.due("the refused do not count: work()", x.work(), 3);
        bothExpressions(check, x);
        x.clear();
        check.due("cleared: work()", x.work(), 0);
        x.evaluate(0, 0, 1);
        check.due("cleared, then refused: work()", x.work(), 0);
        check.end("Promise10WorkTest");
    }

    private static void bothExpressions(Check check, EnclosureCalculator x) {
        x.compare(0, 0, 3, 1);
        check.due("the same twice: work()", x.work(), 3);
        x.compare(0, 1, 9, 1);
        check.due("one holds the other: work()", x.work(), 5);
        x.compare(1, 0, 9, 1);
        check.due("one holds the other, turned: work()", x.work(), 5);
        x.compare(2, 1, 9, 1);
        check.due("parts in both: work()", x.work(), 6);
        x.compare(0, 4, 9, 9);
        check.due("nothing in both: work()", x.work(), 4);
        x.compare(4, 3, 9, 9);
        check.due("nothing in both, nine steps: work()", x.work(), 4 * 9);
        x.define(0);
        x.type('1');
        x.decimal(1);
        check.due("other calls: work()", x.work(), 4 * 9);
    }
}
