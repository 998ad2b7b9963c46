/** Each sentence that bounds the result, and what is asked of it, on both sides of its boundary. */
public final class BoundaryResultTest {
    private static final int DONE = EnclosureCalculator.DONE;

    public static void main(String[] args) {
        Check check = new Check();
        noneAtFirst(check);
        noneAfterClear(check);
        clearedWithNothingThere(check);
        step0IsAStep(check);
        spansThatHold0(check);
        theResultIsKept(check);
        placesFrom0To6(check);
        noDecimalWithoutAResult(check);
        nearestBesideAHalf(check);
        greaterOfTwoEquallyNear(check);
        theMiddleOfASpan(check);
        farDecimals(check);
        check.end("BoundaryResultTest");
    }

    private static void none(Check check, String where, EnclosureCalculator x) {
        check.result(where, x, EnclosureCalculator.REFUSED, 0, 0);
        for (int d = -1; d <= 7; d++) {
            check.due(where + ": decimal(" + d + ")", x.decimal(d), 0);
        }
    }

    private static EnclosureCalculator evaluated(Check check, int p, String... texts) {
        EnclosureCalculator x = Check.with(texts);
        String what = texts[texts.length - 1] + " with " + p;
        check.due(what, x.evaluate(texts.length - 1, p, 20), DONE);
        return x;
    }

    /** "There is none at first."; "An empty text, no names given, no parts, no result." */
    private static void noneAtFirst(Check check) {
        EnclosureCalculator x = new EnclosureCalculator();
        none(check, "new", x);
        check.due("new: length()", x.length(), 0);
        check.due("new: work()", x.work(), 0);
        for (int name = 0; name < 8; name++) {
            check.due("new: parts(" + name + ")", x.parts(name), EnclosureCalculator.REFUSED);
        }
        for (int i = 0; i < 4; i++) {
            check.due("new: 80 parts are free", Check.define(x, i, "-------------------1"), 20);
        }
        check.due("and no more", Check.define(x, 0, "1"), EnclosureCalculator.FULL);
        none(check, "defined", x);
        x.compare(0, 1, 0, 1);
        none(check, "compared", x);
        x.evaluate(0, 0, 1);
        check.result("evaluated", x, 0, -1, -1);
    }

    /** "Takes all names, parts and the result away, and empties the text." */
    private static void noneAfterClear(Check check) {
        EnclosureCalculator x = Check.with("1", "2", "3", "4", "5", "6", "7", "8");
        x.evaluate(7, 3, 1);
        check.result("8", x, 3, 64, 64);
        Check.typeText(x, "a+b+c+d+e+f+g+h+1+11");
        x.clear();
        none(check, "cleared", x);
        check.due("cleared: length()", x.length(), 0);
        check.due("cleared: erase()", x.erase(), false);
        check.due("cleared: work()", x.work(), 0);
        for (int name = 0; name < 8; name++) {
            check.due("cleared: parts(" + name + ")", x.parts(name), EnclosureCalculator.REFUSED);
        }
        for (int i = 0; i < 4; i++) {
            check.due("cleared: 80 parts are free", Check.define(x, i, "-------------------1"), 20);
        }
        none(check, "cleared and defined", x);
    }

    private static void clearedWithNothingThere(Check check) {
        EnclosureCalculator x = new EnclosureCalculator();
        x.clear();
        x.clear();
        none(check, "new and cleared", x);
        check.due("new and cleared: length()", x.length(), 0);
        check.due("new and cleared: define(0)", Check.define(x, 0, "9"), 1);
        x.evaluate(0, 1, 1);
        check.result("new and cleared, 9", x, 1, 18, 18);
    }

    /** "The step of the result; REFUSED when there is none.": 0 is a step, and the least. */
    private static void step0IsAStep(Check check) {
        EnclosureCalculator x = evaluated(check, 0, "5");
        check.result("5 at 0", x, 0, 5, 5);
        check.due("5 at 0: decimal(0)", x.decimal(0), 5);
        x = evaluated(check, 16, "1/3", "a+a+a+a");
        check.due("four thirds with 16: step()", x.step(), 18);
        x.evaluate(2, 16, 3);
        check.due("refused: step()", x.step(), 18);
        Check.define(x, 2, "1/0");
        x.evaluate(2, 16, 3);
        none(check, "1/0", x);
    }

    /** "0 when there is none": but an end may be 0 where there is one. */
    private static void spansThatHold0(Check check) {
        check.result("0", evaluated(check, 7, "0"), 7, 0, 0);
        check.result("[0, 1]", evaluated(check, 7, "1/999"), 7, 0, 1);
        check.result("[-1, 0]", evaluated(check, 7, "-1/999"), 7, -1, 0);
        check.result("[-1, 1]", evaluated(check, 7, "1/3", "a-a"), 8, -1, 1);
        check.result("[1, 1]", evaluated(check, 7, "1/128"), 7, 1, 1);
        check.result("[-1, -1]", evaluated(check, 7, "-1/128"), 7, -1, -1);
    }

    /** Only evaluate and clear have to do with the result. */
    private static void theResultIsKept(Check check) {
        EnclosureCalculator x = evaluated(check, 4, "1/3");
        x.type('7');
        x.erase();
        x.type('8');
        x.define(0);
        x.parts(0);
        x.compare(0, 0, 3, 3);
        x.define(0);
        x.decimal(3);
        check.result("kept, though 0 is another expression now", x, 4, 5, 6);
        x.evaluate(0, 2, 1);
        check.result("8", x, 2, 32, 32);
    }

    /** "0 when .. d is not 0 .. 6" */
    private static void placesFrom0To6(Check check) {
        EnclosureCalculator x = evaluated(check, 3, "5/4");
        check.due("5/4: decimal(-1)", x.decimal(-1), 0);
        long[] due = {1, 13, 125, 1250, 12500, 125000, 1250000};
        for (int d = 0; d <= 6; d++) {
            check.due("5/4: decimal(" + d + ")", x.decimal(d), due[d]);
        }
        int[] wrong = {7, 8, 18, 19, 32, 64, 256, 65536, 1 << 31 | 6, -6, Integer.MIN_VALUE, Integer.MAX_VALUE};
        for (int d : wrong) {
            check.due("5/4: decimal(" + d + ")", x.decimal(d), 0);
        }
        check.result("after decimal", x, 3, 10, 10);
    }

    /** "0 when there is no result" */
    private static void noDecimalWithoutAResult(Check check) {
        EnclosureCalculator x = evaluated(check, 3, "5", "1/0", "a");
        check.due("5: decimal(2)", x.decimal(2), 500);
        x.evaluate(1, 3, 1);
        none(check, "after 1/0", x);
        x.evaluate(2, 3, 1);
        check.due("5 again: decimal(2)", x.decimal(2), 500);
        x.clear();
        none(check, "after clear", x);
    }

    private static void decimal(Check check, int d, long want, int p, String... texts) {
        EnclosureCalculator x = evaluated(check, p, texts);
        check.due(texts[texts.length - 1] + " with " + p + ": decimal(" + d + ")", x.decimal(d), want);
    }

    /** "The whole number that is nearest": a unit of step 16 below a half and above it. */
    private static void nearestBesideAHalf(Check check) {
        decimal(check, 0, 0, 16, "1/2-1/256/256");
        decimal(check, 0, 1, 16, "1/2+1/256/256");
        decimal(check, 0, 0, 16, "-1/2+1/256/256");
        decimal(check, 0, -1, 16, "-1/2-1/256/256");
        decimal(check, 0, 7, 16, "15/2-1/256/256");
        decimal(check, 0, 8, 16, "15/2+1/256/256");
        decimal(check, 0, -7, 16, "-15/2+1/256/256");
        decimal(check, 0, -8, 16, "-15/2-1/256/256");
        decimal(check, 1, 2, 16, "1/4-1/256/256");
        decimal(check, 1, 3, 16, "1/4+1/256/256");
        decimal(check, 1, -2, 16, "-1/4+1/256/256");
        decimal(check, 1, -3, 16, "-1/4-1/256/256");
    }

    /** "(of two equally near the greater)" */
    private static void greaterOfTwoEquallyNear(Check check) {
        for (int p = 1; p <= 16; p++) {
            decimal(check, 0, 1, p, "1/2");
            decimal(check, 0, 0, p, "-1/2");
            decimal(check, 0, 2, p, "3/2");
            decimal(check, 0, -1, p, "-3/2");
            decimal(check, 0, 8, p, "15/2");
            decimal(check, 0, -7, p, "-15/2");
        }
        decimal(check, 1, 3, 2, "1/4");
        decimal(check, 1, -2, 2, "-1/4");
        decimal(check, 2, 13, 3, "1/8");
        decimal(check, 2, -12, 3, "-1/8");
        decimal(check, 5, 1563, 6, "1/64");
        decimal(check, 5, -1562, 6, "-1/64");
        decimal(check, 6, 7813, 7, "1/128");
        decimal(check, 6, -7812, 7, "-1/128");
    }

    /** "nearest to the middle of the result's span": the middle may lie between two units. */
    private static void theMiddleOfASpan(Check check) {
        // [0, 1], [-1, 0], [3, 4] and [-4, -3] at step 0.
        decimal(check, 0, 1, 0, "1/3");
        decimal(check, 1, 5, 0, "1/3");
        decimal(check, 0, 0, 0, "-1/3");
        decimal(check, 1, -5, 0, "-1/3");
        decimal(check, 0, 4, 0, "22/7");
        decimal(check, 0, -3, 0, "-22/7");
        // [0, 1] at step 1: a quarter.
        decimal(check, 0, 0, 1, "1/3");
        decimal(check, 1, 3, 1, "1/3");
        decimal(check, 1, -2, 1, "-1/3");
        decimal(check, 2, 25, 1, "1/3");
        decimal(check, 2, -25, 1, "-1/3");
        // [-1, 1] has its middle at 0, [-1, 3] at step 10 at one unit.
        decimal(check, 6, 0, 16, "1/3", "a-a");
        decimal(check, 3, 1, 8, "r(2)", "a^2-2");
        decimal(check, 6, 977, 8, "r(2)", "a^2-2");
    }

    private static void farDecimals(Check check) {
        decimal(check, 6, 4096000000L, 16, "64*64");
        decimal(check, 6, -4096000000L, 16, "-64*64");
        decimal(check, 6, 4095999992L, 16, "1/3", "a-a", "64*64-1/256/512+b+b");
        decimal(check, 6, -4095999992L, 16, "1/3", "a-a", "1/256/512-64*64+b+b");
        decimal(check, 5, 409600000L, 0, "64*64");
        decimal(check, 0, 4096, 16, "64*64");
        decimal(check, 6, 999000000L, 0, "999");
    }
}
