/** The spans of the document's "Terms", sort by sort, worked out by hand. */
public final class SpansTest {
    private static final int NO_ANSWER = EnclosureCalculator.NO_ANSWER;
    private static final int DONE = EnclosureCalculator.DONE;
    private static final int DOMAIN = EnclosureCalculator.DOMAIN;

    public static void main(String[] args) {
        Check check = new Check();
        wholes(check);
        sumsAndSigns(check);
        products(check);
        squares(check);
        wideOperands(check);
        quotients(check);
        roots(check);
        ends(check);
        falseBeforeOpen(check);
        check.end("SpansTest");
    }

    /** Evaluates the last text at the one step p = w, where a span of at most one unit is DONE. */
    private static void oneStep(Check check, int p, long low, long high, String... texts) {
        EnclosureCalculator x = Check.with(texts);
        String what = texts[texts.length - 1] + " at " + p;
        check.due(what + ": evaluate", x.evaluate(texts.length - 1, p, 1), DONE);
        check.result(what, x, p, low, high);
    }

    /** Evaluates the last text with the precision p; the answer comes at the step. */
    private static void later(Check check, int p, int step, long low, long high, String... texts) {
        EnclosureCalculator x = Check.with(texts);
        String what = texts[texts.length - 1] + " from " + p;
        check.due(what + ": evaluate", x.evaluate(texts.length - 1, p, 20), DONE);
        check.result(what, x, step, low, high);
    }

    private static void answer(Check check, int p, int fuel, int want, String... texts) {
        EnclosureCalculator x = Check.with(texts);
        String what = texts[texts.length - 1] + " from " + p + " with " + fuel;
        check.due(what, x.evaluate(texts.length - 1, p, fuel), want);
    }

    private static void wholes(Check check) {
        oneStep(check, 0, 0, 0, "0");
        oneStep(check, 16, 0, 0, "000");
        oneStep(check, 0, 999, 999, "999");
        oneStep(check, 16, 999L << 16, 999L << 16, "999");
    }

    private static void sumsAndSigns(Check check) {
        // At step 3 a third is [2, 3].
        oneStep(check, 3, 10, 11, "1/3", "a+1");
        oneStep(check, 3, 5, 6, "1/3", "1-a");
        oneStep(check, 3, -6, -5, "1/3", "a-1");
        oneStep(check, 3, -3, -2, "1/3", "-a");
        oneStep(check, 3, 2, 3, "1/3", "--a");
        later(check, 3, 4, 10, 12, "1/3", "a+a");
        // A difference of a part and itself takes any two numbers of the span.
        later(check, 3, 4, -1, 1, "1/3", "a-a");
        later(check, 3, 4, 4, 6, "1/3", "2/3", "b-a");
    }

    private static void products(Check check) {
        // At step 2 a third is [1, 2] and a third of a third is [1/4, 4/4] in units.
        oneStep(check, 2, 0, 1, "1/3", "a*a");
        oneStep(check, 2, -1, 0, "1/3", "a*-a");
        oneStep(check, 2, -1, 0, "1/3", "-a*a");
        oneStep(check, 2, 0, 1, "1/3", "-a*-a");
        // [-1, 1] times itself: any two numbers, also of the same part.
        later(check, 3, 4, -1, 1, "1/3", "a-a", "b*b");
        later(check, 2, 3, -1, 1, "1/3", "a-a", "b*-b");
        later(check, 2, 4, -2, 2, "1/3", "a-a", "2*b");
        later(check, 2, 4, -2, 2, "1/3", "a-a", "b*-2");
        oneStep(check, 5, 6 << 5, 6 << 5, "2*3");
        oneStep(check, 5, 0, 0, "1/3", "a*0");
    }

    private static void squares(Check check) {
        oneStep(check, 2, 0, 1, "1/3", "a^2");
        oneStep(check, 2, 0, 1, "-1/3", "a^2");
        // At step 4 a third is [5, 6], its square [25/16, 36/16].
        later(check, 4, 5, 3, 4, "1/3", "a^2");
        oneStep(check, 5, 3, 4, "-1/3", "a^2");
        // The square of [-1, 1] holds the same number twice, so nothing below 0.
        oneStep(check, 3, 0, 1, "1/3", "a-a", "b^2");
        oneStep(check, 0, 0, 1, "1/3", "a-a", "b^2");
        oneStep(check, 3, 0, 1, "1/3", "a-a", "b^4");
        oneStep(check, 0, 1, 1, "1^2");
        oneStep(check, 0, 1, 1, "(-1)^2");
        // At step 0 [-1, 0] and [0, 1].
        oneStep(check, 0, 0, 1, "-1/3", "a^2");
        oneStep(check, 0, 0, 1, "1/3", "a^2");
        // The third power is a product, so its span goes below 0.
        later(check, 3, 4, -1, 1, "1/3", "a-a", "b^3");
        oneStep(check, 7, 32 << 7, 32 << 7, "2^5");
        oneStep(check, 7, -32 << 7, -32 << 7, "(-2)^5");
    }

    /** 3 as nine thirds, nine units wide, and 0 as three less, so that each corner counts somewhere. */
    private static void wideOperands(Check check) {
        wide(check, "b*b", 10, 9198, 9253);
        wide(check, "b*-b", 10, -9253, -9198);
        wide(check, "-b*b", 10, -9253, -9198);
        wide(check, "-b*-b", 10, 9198, 9253);
        wide(check, "c*b", 9, -19, 10);
        wide(check, "b*c", 9, -19, 10);
        wide(check, "c*-b", 9, -10, 19);
        wide(check, "-b*c", 9, -10, 19);
        wide(check, "c*c", 6, -1, 1);
        wide(check, "b/b", 7, 125, 132);
        wide(check, "b/-b", 7, -132, -125);
        wide(check, "-b/b", 7, -132, -125);
        wide(check, "-b/-b", 7, 125, 132);
        wide(check, "c/b", 7, -3, 2);
        wide(check, "c/-b", 7, -2, 3);
    }

    private static void wide(Check check, String text, int step, long low, long high) {
        later(check, 4, step, low, high, "1/3", "9*a", "b-3", text);
    }

    private static void quotients(Check check) {
        oneStep(check, 4, 5, 6, "1/3");
        oneStep(check, 4, -6, -5, "-1/3");
        oneStep(check, 4, -6, -5, "1/-3");
        oneStep(check, 4, 5, 6, "-1/-3");
        oneStep(check, 4, 8, 8, "1/2");
        oneStep(check, 4, -8, -8, "1/-2");
        oneStep(check, 4, 0, 0, "0/5");
        answer(check, 0, 20, NO_ANSWER, "1/0");
        answer(check, 0, 20, NO_ANSWER, "0/0");
        // A third is [0, 1] at steps 0 and 1, and 0 belongs to it; at step 4 [5, 6]
        answer(check, 0, 4, NO_ANSWER, "1/3", "1/a");
        later(check, 0, 4, 42, 52, "1/3", "1/a");
        later(check, 0, 4, -52, -42, "-1/3", "1/a");
        answer(check, 0, 4, NO_ANSWER, "-1/3", "1/a");
        // A quotient of a part and itself takes any two numbers: [5, 6] by [5, 6].
        later(check, 1, 4, 13, 20, "1/3", "a/a");
        later(check, 1, 4, -20, -13, "1/3", "a/-a");
        // [-1, 1] by 1/2, and by -1/2.
        later(check, 2, 4, -2, 2, "1/3", "a-a", "2*b/1");
        later(check, 2, 4, -2, 2, "1/3", "a-a", "b/(1/2)");
        later(check, 2, 4, -2, 2, "1/3", "a-a", "b/(1/-2)");
    }

    private static void roots(Check check) {
        oneStep(check, 0, 0, 0, "r(0)");
        oneStep(check, 16, 0, 0, "r(0)");
        oneStep(check, 0, 1, 1, "r(1)");
        oneStep(check, 0, 1, 2, "r(2)");
        oneStep(check, 0, 1, 2, "r(3)");
        oneStep(check, 0, 2, 2, "r(4)");
        oneStep(check, 16, 92681, 92682, "r(2)");
        oneStep(check, 16, 2071393, 2071394, "r(999)");
        oneStep(check, 3, 12, 12, "9/4", "r(a)");
        oneStep(check, 16, 64L << 16, 64L << 16, "64*64", "r(a)");
        oneStep(check, 16, 4194047, 4194048, "r(64*64-1/2)");
        // The root of [0, 1] is [0, 2] at step 2, [0, 3] at step 3 and [0, 4] at step 4.
        later(check, 1, 2, 0, 2, "1/99", "r(a)");
        answer(check, 5, 20, DOMAIN, "r(-1)");
        answer(check, 6, 1, NO_ANSWER, "r(-1/100)");
        answer(check, 7, 1, DOMAIN, "r(-1/100)");
        // [-1, 1] is not wholly below 0, [-1, 0] neither.
        answer(check, 0, 20, NO_ANSWER, "1/3", "r(a-a)");
        answer(check, 0, 1, NO_ANSWER, "1/3", "r(-a)");
        answer(check, 0, 3, DOMAIN, "1/3", "r(-a)");
    }

    private static void ends(Check check) {
        oneStep(check, 0, 4096, 4096, "64*64");
        oneStep(check, 0, -4096, -4096, "-64*64");
        oneStep(check, 16, 4096L << 16, 4096L << 16, "64^2");
        oneStep(check, 16, -4096L << 16, -4096L << 16, "0-64^2");
        oneStep(check, 0, 4095, 4096, "1/3", "64*64-a");
        oneStep(check, 0, -4096, -4095, "1/3", "a-64*64");
        String[] tooFar = {
            "17*241", "-17*241", "64*64+1", "-64*64-1", "999*999", "64*64+1/999", "-64*64-1/999", "65^2",
            "9^4", "7^5", "(-7)^5", "64*64*2", "512/(1/9)", "-512/(1/9)", "64*65/1"
        };
        for (String text : tooFar) {
            answer(check, 0, 20, NO_ANSWER, text);
        }
        // An OPEN operand leaves everything OPEN, also what would be small again.
        answer(check, 0, 20, NO_ANSWER, "65^2", "a-a");
        answer(check, 0, 20, NO_ANSWER, "65^2", "0*a");
        answer(check, 0, 20, NO_ANSWER, "65^2", "1/a");
        answer(check, 0, 20, NO_ANSWER, "65^2", "r(a)");
        answer(check, 0, 20, NO_ANSWER, "65^2", "r(-a)");
        answer(check, 0, 20, NO_ANSWER, "65^2", "-a");
        answer(check, 0, 20, NO_ANSWER, "65^2", "a^2");
    }

    private static void falseBeforeOpen(Check check) {
        String[] texts = {
            "-a", "a+b", "b+a", "a-b", "b-a", "a*b", "b*a", "a/b", "b/a", "a/0", "0*a", "a^2", "a^3", "r(a)",
            "r(-a)", "a+c", "c+a", "b+(c+a)", "1/0-a"
        };
        for (String text : texts) {
            answer(check, 2, 1, DOMAIN, "r(-1)", "1/0", "7", text);
        }
    }
}
