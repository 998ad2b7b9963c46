public final class Promise09CompareTest {
    private static final int NO_ANSWER = EnclosureCalculator.NO_ANSWER;
    private static final int DOMAIN = EnclosureCalculator.DOMAIN;
    private static final int LESS = EnclosureCalculator.LESS;
    private static final int GREATER = EnclosureCalculator.GREATER;
    private static final int CLOSE = EnclosureCalculator.CLOSE;
    private static final int REFUSED = EnclosureCalculator.REFUSED;

    public static void main(String[] args) {
        Check check = new Check();
        wrongArguments(check);
        wholeNumbers(check);
        touchingSpans(check);
        closeness(check);
        falseAndOpen(check);
        finerSteps(check);
        resultStays(check);
        check.end("Promise09CompareTest");
    }

    private static void due(Check check, EnclosureCalculator x, int[] call, int want) {
        int got = x.compare(call[0], call[1], call[2], call[3]);
        check.due("compare(" + call[0] + ", " + call[1] + ", " + call[2] + ", " + call[3] + ")", got, want);
    }

    private static int[] call(int x, int y, int p, int fuel) {
        return new int[] {x, y, p, fuel};
    }

    private static void wrongArguments(Check check) {
        EnclosureCalculator x = Check.with("1/3", "4");
        x.evaluate(0, 4, 2);
        int[][] wrong = {
            {0, 2, 0, 1}, {2, 0, 0, 1}, {2, 2, 0, 1}, {-1, 0, 0, 1}, {0, -1, 0, 1}, {8, 0, 0, 1}, {0, 8, 0, 1},
            {0, 1, -1, 1}, {0, 1, 17, 1}, {0, 1, 0, 0}, {0, 1, 0, 21}, {0, 1, 0, -5},
            {Integer.MIN_VALUE, 0, 0, 1}, {0, Integer.MAX_VALUE, 0, 1}, {0, 1, Integer.MIN_VALUE, 1},
            {0, 1, Integer.MAX_VALUE, 1}, {0, 1, 0, Integer.MIN_VALUE}, {0, 1, 0, Integer.MAX_VALUE}
        };
        for (int[] w : wrong) {
            due(check, x, w, REFUSED);
            check.result("a refused compare", x, 4, 5, 6);
            check.due("a refused compare: work()", x.work(), 3);
        }
        due(check, x, call(0, 1, 0, 1), LESS);
        due(check, x, call(0, 1, 16, 1), LESS);
        due(check, x, call(0, 1, 0, 20), LESS);
        due(check, x, call(0, 1, 16, 20), LESS);
    }

    private static void wholeNumbers(Check check) {
        EnclosureCalculator x = Check.with("3", "4", "-4", "2+1");
        due(check, x, call(0, 1, 0, 1), LESS);
        due(check, x, call(1, 0, 0, 1), GREATER);
        due(check, x, call(0, 2, 16, 20), GREATER);
        due(check, x, call(2, 0, 16, 20), LESS);
        due(check, x, call(0, 3, 16, 1), CLOSE);
        due(check, x, call(0, 0, 16, 1), CLOSE);
        due(check, x, call(2, 2, 0, 20), CLOSE);
    }

    /** At step 0, 1/3 is [0, 1] and 4/3 is [1, 2]: spans that touch are neither less nor greater. */
    private static void touchingSpans(Check check) {
        EnclosureCalculator x = Check.with("1/3", "4/3", "0", "1", "2", "7/3");
        due(check, x, call(0, 1, 0, 1), NO_ANSWER);
        due(check, x, call(1, 0, 0, 1), NO_ANSWER);
        due(check, x, call(0, 1, 0, 2), LESS);
        due(check, x, call(1, 0, 0, 2), GREATER);
        due(check, x, call(0, 2, 0, 1), CLOSE);
        due(check, x, call(2, 0, 0, 1), CLOSE);
        due(check, x, call(0, 3, 0, 1), CLOSE);
        due(check, x, call(3, 0, 0, 1), CLOSE);
        due(check, x, call(0, 4, 0, 1), LESS);
        due(check, x, call(4, 0, 0, 1), GREATER);
        due(check, x, call(0, 5, 0, 1), LESS);
        due(check, x, call(5, 0, 0, 1), GREATER);
    }

    /** The four ends count: 1/3 - 1/3 is [-1, 1], beside it 1/3 + 1/3 - 1/3 - 1/3 is [-2, 2]. */
    private static void closeness(Check check) {
        EnclosureCalculator x = Check.with("1/3", "a-a", "a+a-a-a", "0");
        due(check, x, call(1, 3, 5, 1), NO_ANSWER);
        due(check, x, call(1, 3, 5, 2), CLOSE);
        check.due("two units: work()", x.work(), 2 * 5);
        due(check, x, call(3, 2, 5, 2), NO_ANSWER);
        due(check, x, call(2, 3, 5, 3), CLOSE);
        due(check, x, call(1, 2, 5, 2), NO_ANSWER);
        due(check, x, call(2, 1, 5, 3), CLOSE);
        due(check, x, call(2, 2, 16, 2), NO_ANSWER);
        due(check, x, call(2, 2, 16, 3), CLOSE);
        due(check, x, call(2, 2, 16, 20), CLOSE);
    }

    private static void falseAndOpen(Check check) {
        EnclosureCalculator x = Check.with("r(-1)", "1/0", "5", "r(1/100-1/50)");
        due(check, x, call(0, 2, 0, 5), DOMAIN);
        due(check, x, call(2, 0, 0, 5), DOMAIN);
        due(check, x, call(0, 1, 0, 5), DOMAIN);
        due(check, x, call(1, 0, 0, 5), DOMAIN);
        due(check, x, call(0, 0, 0, 5), DOMAIN);
        check.due("FALSE at the first step: work()", x.work(), 3);
        due(check, x, call(1, 2, 0, 5), NO_ANSWER);
        due(check, x, call(2, 1, 0, 5), NO_ANSWER);
        due(check, x, call(1, 1, 0, 5), NO_ANSWER);
        due(check, x, call(3, 2, 0, 8), NO_ANSWER);
        due(check, x, call(3, 2, 0, 9), DOMAIN);
        due(check, x, call(2, 3, 8, 1), DOMAIN);
    }

    private static void finerSteps(Check check) {
        EnclosureCalculator x = Check.with("r(2)+r(3)", "22/7", "r(10)", "355/113");
        due(check, x, call(0, 1, 0, 20), CLOSE);
        check.due("CLOSE before GREATER can be known: work()", x.work(), 8 * 2);
        due(check, x, call(0, 1, 9, 1), NO_ANSWER);
        due(check, x, call(0, 1, 9, 2), GREATER);
        check.due("3.146 and 3.142: work()", x.work(), 8 * 2);
        due(check, x, call(0, 1, 16, 1), GREATER);
        due(check, x, call(0, 2, 16, 1), LESS);
        due(check, x, call(1, 3, 16, 1), GREATER);
        due(check, x, call(3, 1, 12, 20), LESS);
        due(check, x, call(1, 1, 16, 1), CLOSE);
        due(check, x, call(0, 0, 16, 1), NO_ANSWER);
        due(check, x, call(0, 0, 16, 2), CLOSE);
    }

    private static void resultStays(Check check) {
        EnclosureCalculator x = Check.with("1/3", "r(-1)", "1/0");
        due(check, x, call(0, 0, 3, 3), CLOSE);
        check.result("compare alone", x, -1, 0, 0);
        x.evaluate(0, 4, 1);
        due(check, x, call(0, 0, 3, 3), CLOSE);
        check.result("after CLOSE", x, 4, 5, 6);
        due(check, x, call(0, 1, 3, 3), DOMAIN);
        check.result("after DOMAIN", x, 4, 5, 6);
        due(check, x, call(0, 2, 3, 3), NO_ANSWER);
        check.result("after NO_ANSWER", x, 4, 5, 6);
    }
}
