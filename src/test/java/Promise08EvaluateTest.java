public final class Promise08EvaluateTest {
    private static final int NO_ANSWER = EnclosureCalculator.NO_ANSWER;
    private static final int DONE = EnclosureCalculator.DONE;
    private static final int DOMAIN = EnclosureCalculator.DOMAIN;
    private static final int REFUSED = EnclosureCalculator.REFUSED;

    public static void main(String[] args) {
        Check check = new Check();
        wrongArguments(check);
        narrowEnough(check);
        fuel(check);
        noStepAbove18(check);
        domain(check);
        resultGoes(check);
        check.end("Promise08EvaluateTest");
    }

    private static void wrongArguments(Check check) {
        EnclosureCalculator x = Check.with("1/3");
        x.evaluate(0, 4, 2);
        int[][] wrong = {
            {1, 0, 1}, {7, 0, 1}, {-1, 0, 1}, {8, 0, 1}, {0, -1, 1}, {0, 17, 1}, {0, 18, 1}, {0, 0, 0}, {0, 0, 21},
            {0, 0, -1}, {Integer.MIN_VALUE, 0, 1}, {Integer.MAX_VALUE, 0, 1}, {0, Integer.MIN_VALUE, 1},
            {0, Integer.MAX_VALUE, 1}, {0, 0, Integer.MIN_VALUE}, {0, 0, Integer.MAX_VALUE}
        };
        for (int[] w : wrong) {
            String call = "evaluate(" + w[0] + ", " + w[1] + ", " + w[2] + ")";
            check.due(call, x.evaluate(w[0], w[1], w[2]), REFUSED);
            check.result("after " + call, x, 4, 5, 6);
            check.due(call + ": work()", x.work(), 3);
        }
        check.due("the edges: evaluate(0, 16, 20)", x.evaluate(0, 16, 20), DONE);
        check.due("the edges: evaluate(0, 0, 20)", x.evaluate(0, 0, 20), DONE);
        check.due("the edges: evaluate(0, 16, 1)", x.evaluate(0, 16, 1), DONE);
        check.due("the edges: evaluate(0, 0, 1)", x.evaluate(0, 0, 1), DONE);
    }

    /** 1/3 is one unit wide, so a third times 2, 3, 4 is 2, 3, 4 units wide. */
    private static void narrowEnough(Check check) {
        EnclosureCalculator x = Check.with("1/3", "a+a", "a+a+a", "a+a+a+a", "d+a");
        done(check, x, 0, 5, 5, 10, 11);
        done(check, x, 1, 5, 6, 42, 44);
        done(check, x, 2, 5, 7, 126, 129);
        done(check, x, 3, 5, 7, 168, 172);
        done(check, x, 4, 5, 8, 425, 430);
        done(check, x, 4, 0, 3, 10, 15);
        done(check, x, 3, 16, 18, 349524, 349528);
        check.due("five units: evaluate(4, 16, 20)", x.evaluate(4, 16, 20), NO_ANSWER);
        done(check, x, 4, 15, 18, 436905, 436910);
    }

    private static void done(Check check, EnclosureCalculator x, int name, int p, int step, long low, long high) {
        String call = "evaluate(" + name + ", " + p + ", 20)";
        check.due(call, x.evaluate(name, p, 20), DONE);
        check.result(call, x, step, low, high);
    }

    private static void fuel(Check check) {
        EnclosureCalculator x = Check.with("1/3", "a+a+a+a", "b+a");
        check.due("four units: evaluate(1, 3, 1)", x.evaluate(1, 3, 1), NO_ANSWER);
        check.due("four units: evaluate(1, 3, 2)", x.evaluate(1, 3, 2), NO_ANSWER);
        check.result("four units, fuel 2", x, -1, 0, 0);
        check.due("four units: evaluate(1, 3, 3)", x.evaluate(1, 3, 3), DONE);
        check.due("four units, fuel 3: step()", x.step(), 5);
        check.due("five units: evaluate(2, 3, 3)", x.evaluate(2, 3, 3), NO_ANSWER);
        check.due("five units: evaluate(2, 3, 4)", x.evaluate(2, 3, 4), DONE);
        check.due("five units, fuel 4: step()", x.step(), 6);
    }

    private static void noStepAbove18(Check check) {
        EnclosureCalculator x = Check.with("1/(1/3-1/4-1/12)", "1/3", "b+b+b+b");
        check.due("1/0: evaluate(0, 16, 20)", x.evaluate(0, 16, 20), NO_ANSWER);
        check.due("1/0: work()", x.work(), 3 * x.parts(0));
        check.due("1/0: evaluate(0, 0, 19)", x.evaluate(0, 0, 19), NO_ANSWER);
        check.due("1/0: work()", x.work(), 19 * x.parts(0));
        check.due("1/0: evaluate(0, 0, 20)", x.evaluate(0, 0, 20), NO_ANSWER);
        check.due("1/0: work()", x.work(), 19 * x.parts(0));
        check.due("four units: evaluate(2, 16, 2)", x.evaluate(2, 16, 2), NO_ANSWER);
        check.due("four units: evaluate(2, 16, 3)", x.evaluate(2, 16, 3), DONE);
        check.due("four units: step()", x.step(), 18);
    }

    private static void domain(Check check) {
        EnclosureCalculator x = Check.with("r(-1)", "r(2)", "r(b*b-2)", "r(1/100-1/50)", "a/0", "0/0+r(0-1)");
        check.due("r(-1): evaluate(0, 0, 20)", x.evaluate(0, 0, 20), DOMAIN);
        check.due("r(-1): work()", x.work(), 3);
        check.result("r(-1)", x, -1, 0, 0);
        check.due("r(b*b-2): evaluate(2, 0, 20)", x.evaluate(2, 0, 20), NO_ANSWER);
        check.due("FALSE from step 8 on: evaluate(3, 0, 20)", x.evaluate(3, 0, 20), DOMAIN);
        check.due("FALSE from step 8 on: work()", x.work(), 9 * x.parts(3));
        check.due("FALSE from step 8 on: evaluate(3, 0, 8)", x.evaluate(3, 0, 8), NO_ANSWER);
        check.due("FALSE divided by 0: evaluate(4, 3, 3)", x.evaluate(4, 3, 3), DOMAIN);
        check.due("OPEN and FALSE: evaluate(5, 3, 3)", x.evaluate(5, 3, 3), DOMAIN);
    }

    private static void resultGoes(Check check) {
        EnclosureCalculator x = Check.with("5", "1/0", "r(-1)");
        x.evaluate(0, 2, 1);
        check.result("5", x, 2, 20, 20);
        check.due("1/0: evaluate(1, 2, 1)", x.evaluate(1, 2, 1), NO_ANSWER);
        check.result("1/0", x, -1, 0, 0);
        check.due("1/0: decimal(0)", x.decimal(0), 0);
        x.evaluate(0, 2, 1);
        check.due("r(-1): evaluate(2, 2, 1)", x.evaluate(2, 2, 1), DOMAIN);
        check.result("r(-1)", x, -1, 0, 0);
        x.evaluate(0, 2, 1);
        Check.define(x, 0, "6");
        check.result("a new 0", x, 2, 20, 20);
        x.evaluate(0, 3, 1);
        check.result("6", x, 3, 48, 48);
    }
}
