public final class Promise11StepTest {
    public static void main(String[] args) {
        Check check = new Check();
        EnclosureCalculator x = Check.with("1", "1/3", "b+b+b+b", "1/0");
        check.due("no result: step()", x.step(), EnclosureCalculator.REFUSED);
        for (int p = 0; p <= 16; p++) {
            x.evaluate(0, p, 3);
            check.due("1 with p " + p + ": step()", x.step(), p);
            x.evaluate(2, p, 3);
            check.due("four units with p " + p + ": step()", x.step(), p + 2);
        }
        x.compare(0, 1, 3, 3);
        check.due("after compare: step()", x.step(), 18);
        x.evaluate(3, 16, 3);
        check.due("after NO_ANSWER: step()", x.step(), EnclosureCalculator.REFUSED);
        x.evaluate(0, 0, 1);
        check.due("step 0: step()", x.step(), 0);
        x.clear();
        check.due("cleared: step()", x.step(), EnclosureCalculator.REFUSED);
        check.end("Promise11StepTest");
    }
}
