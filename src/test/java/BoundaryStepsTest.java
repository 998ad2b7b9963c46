/** Each sentence that bounds evaluate, compare and work, on both sides of its boundary. */
public final class BoundaryStepsTest {
    private static final int REFUSED = EnclosureCalculator.REFUSED;
    private static final int NO_ANSWER = EnclosureCalculator.NO_ANSWER;
    private static final int DONE = EnclosureCalculator.DONE;
    private static final int DOMAIN = EnclosureCalculator.DOMAIN;
    private static final int LESS = EnclosureCalculator.LESS;
    private static final int GREATER = EnclosureCalculator.GREATER;
    private static final int CLOSE = EnclosureCalculator.CLOSE;

    public static void main(String[] args) {
        Check check = new Check();
        precisionAndFuel(check);
        farPrecisionAndFuel(check);
        namesToEvaluate(check);
        namesToCompare(check);
        stepsOfTheFuel(check);
        stepsInThisOrder(check);
        noneAbove18(check);
        workOfEveryFuel(check);
        narrowEnough(check);
        falseAtTheLastStep(check);
        noResultAfterwards(check);
        compareNamesThatAreTheSame(check);
        lessAndGreater(check);
        closeByTheFourEnds(check);
        closeOnlyWhenNeitherHolds(check);
        oneOfThemIsFalse(check);
        bothHaveSpans(check);
        theResultStaysAsItIs(check);
        noWorkAtFirst(check);
        workOfTheLatest(check);
        check.end("BoundaryStepsTest");
    }

    private static void evaluate(Check check, EnclosureCalculator x, int name, int p, int fuel, int want) {
        check.due("evaluate(" + name + ", " + p + ", " + fuel + ")", x.evaluate(name, p, fuel), want);
    }

    private static void compare(Check check, EnclosureCalculator x, int[] pair, int p, int fuel, int want) {
        String call = "compare(" + pair[0] + ", " + pair[1] + ", " + p + ", " + fuel + ")";
        check.due(call, x.compare(pair[0], pair[1], p, fuel), want);
    }

    private static int[] pair(int x, int y) {
        return new int[] {x, y};
    }

    /** "REFUSED .. when .. p is not 0 .. 16, or fuel is not 1 .. 20" */
    private static void precisionAndFuel(Check check) {
        for (int p = -3; p <= 20; p++) {
            EnclosureCalculator x = Check.with("5", "6");
            for (int fuel = -3; fuel <= 24; fuel++) {
                boolean taken = p >= 0 && p <= 16 && fuel >= 1 && fuel <= 20;
                evaluate(check, x, 0, p, fuel, taken ? DONE : REFUSED);
                compare(check, x, pair(0, 1), p, fuel, taken ? LESS : REFUSED);
                compare(check, x, pair(1, 1), p, fuel, taken ? CLOSE : REFUSED);
            }
        }
    }

    private static void farPrecisionAndFuel(Check check) {
        EnclosureCalculator x = Check.with("5");
        int[] far = {Integer.MIN_VALUE, Integer.MIN_VALUE + 1, 1 << 31 | 16, -256, 256, 65536, Integer.MAX_VALUE};
        for (int number : far) {
            evaluate(check, x, 0, number, 1, REFUSED);
            evaluate(check, x, 0, 0, number, REFUSED);
            evaluate(check, x, 0, number, number, REFUSED);
            evaluate(check, x, 0, number, 1 - number, REFUSED);
            compare(check, x, pair(0, 0), number, 1, REFUSED);
            compare(check, x, pair(0, 0), 0, number, REFUSED);
            compare(check, x, pair(0, 0), number, number, REFUSED);
        }
    }

    /** "REFUSED, changing nothing, when there is no such expression" */
    private static void namesToEvaluate(Check check) {
        for (int given = 0; given < 8; given++) {
            EnclosureCalculator x = new EnclosureCalculator();
            Check.define(x, given, "5");
            for (int name = -3; name <= 10; name++) {
                evaluate(check, x, name, 0, 1, name == given ? DONE : REFUSED);
            }
            evaluate(check, x, given + 256, 0, 1, REFUSED);
            evaluate(check, x, given | Integer.MIN_VALUE, 0, 1, REFUSED);
            x.clear();
            evaluate(check, x, given, 0, 1, REFUSED);
        }
    }

    /** "REFUSED when there is no such x or y" */
    private static void namesToCompare(Check check) {
        for (int given = 0; given < 8; given++) {
            EnclosureCalculator x = new EnclosureCalculator();
            Check.define(x, given, "5");
            for (int name = -3; name <= 10; name++) {
                compare(check, x, pair(given, name), 0, 1, name == given ? CLOSE : REFUSED);
                compare(check, x, pair(name, given), 0, 1, name == given ? CLOSE : REFUSED);
                compare(check, x, pair(name, name), 0, 1, name == given ? CLOSE : REFUSED);
            }
            compare(check, x, pair(given, Integer.MAX_VALUE), 0, 1, REFUSED);
            compare(check, x, pair(Integer.MIN_VALUE, given), 0, 1, REFUSED);
            x.clear();
            compare(check, x, pair(given, given), 0, 1, REFUSED);
        }
    }

    /** "with precision p and fuel n these are the steps p, p + 1, .., p + n - 1": 0/(1/999) is known from step 10 on. */
    private static void stepsOfTheFuel(Check check) {
        for (int p = 0; p <= 16; p++) {
            EnclosureCalculator x = Check.with("0/(1/999)", "1");
            int first = Math.max(p, 10);
            for (int fuel = 1; fuel <= 20; fuel++) {
                boolean reached = p + fuel - 1 >= 10;
                evaluate(check, x, 0, p, fuel, reached ? DONE : NO_ANSWER);
                check.due("p " + p + ", fuel " + fuel + ": step()", x.step(), reached ? first : -1);
                check.due("p " + p + ", fuel " + fuel + ": work()", x.work(), 5 * (reached ? first - p + 1 : fuel));
                compare(check, x, pair(0, 1), p, fuel, reached ? LESS : NO_ANSWER);
                check.due("compare, p " + p + ", fuel " + fuel + ": work()", x.work(), 6 * (reached ? first - p + 1 : fuel));
            }
        }
    }

    /** "in this order": the first step that answers is taken, not a finer one. */
    private static void stepsInThisOrder(Check check) {
        EnclosureCalculator x = Check.with("1/3", "r(-1/999)");
        for (int p = 0; p <= 16; p++) {
            evaluate(check, x, 0, p, 20, DONE);
            check.result("1/3 with p " + p, x, p, (1L << p) / 3, (1L << p) / 3 + 1);
            check.due("1/3 with p " + p + ": work()", x.work(), 3);
        }
        evaluate(check, x, 1, 0, 20, DOMAIN);
        check.due("FALSE first at step 10: work()", x.work(), 11 * x.parts(1));
    }

    /** "but none above 18": 1/512/512 is a unit at 18, 1/512/513 is less and would be more at 19. */
    private static void noneAbove18(Check check) {
        EnclosureCalculator x = Check.with("0/(1/512/512)", "0/(1/512/513)", "1");
        evaluate(check, x, 0, 16, 2, NO_ANSWER);
        evaluate(check, x, 0, 16, 3, DONE);
        check.due("known at 18: step()", x.step(), 18);
        evaluate(check, x, 0, 0, 18, NO_ANSWER);
        evaluate(check, x, 0, 0, 19, DONE);
        check.due("known at 18 from 0: step()", x.step(), 18);
        for (int p = 0; p <= 16; p++) {
            evaluate(check, x, 0, p, 20, DONE);
            evaluate(check, x, 1, p, 20, NO_ANSWER);
            compare(check, x, pair(0, 2), p, 20, LESS);
            compare(check, x, pair(1, 2), p, 20, NO_ANSWER);
        }
    }

    /** "times the number of steps that were tried" */
    private static void workOfEveryFuel(Check check) {
        for (int p = 0; p <= 16; p++) {
            EnclosureCalculator x = Check.with("1/0", "7");
            for (int fuel = 1; fuel <= 20; fuel++) {
                int steps = Math.min(fuel, 19 - p);
                evaluate(check, x, 0, p, fuel, NO_ANSWER);
                check.due("p " + p + ", fuel " + fuel + ": work()", x.work(), 3 * steps);
                compare(check, x, pair(1, 0), p, fuel, NO_ANSWER);
                check.due("compare, p " + p + ", fuel " + fuel + ": work()", x.work(), 4 * steps);
            }
        }
    }

    /** "high - low is at most 2 to the power of -p": sums of k thirds are k units wide at every step. */
    private static void narrowEnough(Check check) {
        int[] widths = {1, 2, 3, 4, 5, 8, 9};
        int[] later = {0, 1, 2, 2, 3, 3, 4};
        for (int p = 0; p <= 16; p++) {
            EnclosureCalculator x = Check.with("1/3", "a+a", "a+b", "b+b", "a+d", "d+d", "a+f");
            for (int name = 0; name < widths.length; name++) {
                int step = p + later[name];
                evaluate(check, x, name, p, later[name] + 1, step <= 18 ? DONE : NO_ANSWER);
                check.due(widths[name] + " units, p " + p + ": step()", x.step(), step <= 18 ? step : -1);
                check.due(widths[name] + " units, p " + p, x.high() - x.low(), step <= 18 ? widths[name] : 0);
                if (later[name] > 0) {
                    evaluate(check, x, name, p, later[name], NO_ANSWER);
                }
            }
        }
    }

    /** "when the expression is FALSE, answers DOMAIN": FALSE at the last step that is tried, or at the one after. */
    private static void falseAtTheLastStep(Check check) {
        EnclosureCalculator x = Check.with("r(-1/999)", "r(-1/512/512)", "r(-1/512/513)", "r(-1)");
        evaluate(check, x, 0, 0, 10, NO_ANSWER);
        evaluate(check, x, 0, 0, 11, DOMAIN);
        evaluate(check, x, 0, 9, 1, NO_ANSWER);
        evaluate(check, x, 0, 9, 2, DOMAIN);
        evaluate(check, x, 0, 10, 1, DOMAIN);
        evaluate(check, x, 1, 16, 2, NO_ANSWER);
        evaluate(check, x, 1, 16, 3, DOMAIN);
        evaluate(check, x, 2, 16, 20, NO_ANSWER);
        evaluate(check, x, 3, 0, 1, DOMAIN);
        evaluate(check, x, 3, 16, 20, DOMAIN);
        check.due("FALSE at the first step: work()", x.work(), 3);
    }

    /** "With an answer other than DONE there is no result afterwards." */
    private static void noResultAfterwards(Check check) {
        EnclosureCalculator x = Check.with("5", "1/0", "r(-1)");
        for (int other = 1; other <= 2; other++) {
            evaluate(check, x, 0, 3, 1, DONE);
            check.result("DONE", x, 3, 40, 40);
            evaluate(check, x, other, 3, 1, other == 1 ? NO_ANSWER : DOMAIN);
            check.result("other than DONE", x, -1, 0, 0);
            check.due("other than DONE: decimal(0)", x.decimal(0), 0);
        }
    }

    /** "the names x and y (which may be the same)" */
    private static void compareNamesThatAreTheSame(Check check) {
        EnclosureCalculator x = Check.with("1/3", "a+a", "r(-1)", "1/0");
        compare(check, x, pair(0, 0), 9, 1, CLOSE);
        check.due("the same: work()", x.work(), 3);
        compare(check, x, pair(1, 1), 9, 1, NO_ANSWER);
        compare(check, x, pair(1, 1), 9, 2, CLOSE);
        check.due("the same, two steps: work()", x.work(), 8);
        compare(check, x, pair(2, 2), 9, 1, DOMAIN);
        compare(check, x, pair(3, 3), 9, 1, NO_ANSWER);
    }

    /** "LESS when the high end of the first is less than the low end of the second": 1/3 is [5, 6] at 4. */
    private static void lessAndGreater(Check check) {
        EnclosureCalculator x = Check.with("1/3", "4/16", "5/16", "6/16", "7/16", "21/50", "13/50");
        compare(check, x, pair(0, 4), 4, 1, LESS);
        compare(check, x, pair(4, 0), 4, 1, GREATER);
        compare(check, x, pair(0, 3), 4, 1, CLOSE);
        compare(check, x, pair(3, 0), 4, 1, CLOSE);
        compare(check, x, pair(0, 2), 4, 1, CLOSE);
        compare(check, x, pair(2, 0), 4, 1, CLOSE);
        compare(check, x, pair(0, 1), 4, 1, GREATER);
        compare(check, x, pair(1, 0), 4, 1, LESS);
        // 21/50 is [6, 7] and 13/50 is [4, 5] at 4: they touch [5, 6], and two units are not close.
        compare(check, x, pair(0, 5), 4, 1, NO_ANSWER);
        compare(check, x, pair(5, 0), 4, 1, NO_ANSWER);
        compare(check, x, pair(0, 6), 4, 1, NO_ANSWER);
        compare(check, x, pair(6, 0), 4, 1, NO_ANSWER);
        compare(check, x, pair(0, 5), 4, 2, LESS);
        compare(check, x, pair(5, 0), 4, 2, GREATER);
        compare(check, x, pair(6, 5), 4, 1, LESS);
        compare(check, x, pair(5, 6), 4, 1, GREATER);
        wholeNumbersSideBySide(check);
    }

    private static void wholeNumbersSideBySide(Check check) {
        EnclosureCalculator x = Check.with("-1", "0", "1", "64*64", "-64*64", "1/512/512");
        int[] inOrder = {4, 0, 1, 2, 3};
        for (int i = 0; i < inOrder.length; i++) {
            for (int j = 0; j < inOrder.length; j++) {
                int want = i < j ? LESS : i > j ? GREATER : CLOSE;
                compare(check, x, pair(inOrder[i], inOrder[j]), 0, 1, want);
                compare(check, x, pair(inOrder[i], inOrder[j]), 16, 20, want);
            }
        }
        // Below one unit to step 17, one unit above 0 at 18: close at the first step already.
        compare(check, x, pair(1, 5), 16, 20, CLOSE);
    }

    /**
     * "the greatest of the four ends less the least of them is at most 2 to the power of -p":
     * [-1, 1] and [0, 0], [-1, 0] and [0, 1], [-1, 1] and itself are two units, [-2, 2] is four.
     */
    private static void closeByTheFourEnds(Check check) {
        EnclosureCalculator x = Check.with("1/3", "a-a", "b+b", "0", "1/999", "-e", "b+c");
        int[][] twoUnits = {pair(1, 3), pair(3, 1), pair(4, 5), pair(5, 4), pair(1, 1), pair(1, 4), pair(5, 1)};
        for (int[] two : twoUnits) {
            compare(check, x, two, 3, 1, NO_ANSWER);
            compare(check, x, two, 3, 2, CLOSE);
        }
        int[][] oneUnit = {pair(3, 4), pair(4, 3), pair(5, 3), pair(3, 5), pair(4, 4), pair(3, 3)};
        for (int[] one : oneUnit) {
            compare(check, x, one, 3, 1, CLOSE);
        }
        int[][] fourUnits = {pair(2, 3), pair(3, 2), pair(2, 1), pair(1, 2), pair(2, 4), pair(5, 2), pair(2, 2)};
        for (int[] four : fourUnits) {
            compare(check, x, four, 3, 2, NO_ANSWER);
            compare(check, x, four, 3, 3, CLOSE);
        }
        compare(check, x, pair(2, 3), 16, 2, NO_ANSWER);
        compare(check, x, pair(2, 3), 16, 3, CLOSE);
        compare(check, x, pair(1, 2), 16, 2, NO_ANSWER);
        compare(check, x, pair(1, 2), 16, 3, CLOSE);
        // [-3, 3] is six units, and eight are allowed at the third step after p.
        compare(check, x, pair(6, 3), 3, 3, NO_ANSWER);
        compare(check, x, pair(3, 6), 3, 4, CLOSE);
        compare(check, x, pair(6, 3), 16, 20, NO_ANSWER);
        compare(check, x, pair(3, 6), 15, 20, CLOSE);
    }

    /** "CLOSE when neither holds": numbers a half apart are within 1, but LESS is known first. */
    private static void closeOnlyWhenNeitherHolds(Check check) {
        EnclosureCalculator x = Check.with("1/2", "1", "3/4");
        compare(check, x, pair(0, 1), 0, 1, CLOSE);
        compare(check, x, pair(0, 1), 1, 1, LESS);
        compare(check, x, pair(1, 0), 1, 1, GREATER);
        compare(check, x, pair(0, 2), 2, 1, LESS);
        compare(check, x, pair(2, 0), 2, 1, GREATER);
        compare(check, x, pair(0, 2), 0, 1, CLOSE);
    }

    /** "when one of them is FALSE, answers DOMAIN" */
    private static void oneOfThemIsFalse(Check check) {
        EnclosureCalculator x = Check.with("r(-1)", "1/0", "5", "r(-1/999)");
        for (int other = 0; other <= 2; other++) {
            compare(check, x, pair(0, other), 3, 1, DOMAIN);
            compare(check, x, pair(other, 0), 3, 1, DOMAIN);
        }
        compare(check, x, pair(3, 2), 0, 10, NO_ANSWER);
        compare(check, x, pair(3, 2), 0, 11, DOMAIN);
        compare(check, x, pair(2, 3), 0, 10, NO_ANSWER);
        compare(check, x, pair(2, 3), 0, 11, DOMAIN);
        compare(check, x, pair(1, 3), 10, 1, DOMAIN);
    }

    /** "when both have spans": one that is OPEN leaves the step without an answer. */
    private static void bothHaveSpans(Check check) {
        EnclosureCalculator x = Check.with("1/0", "5", "0/(1/999)", "65^2");
        int[][] open = {pair(0, 1), pair(1, 0), pair(0, 0), pair(3, 1), pair(1, 3), pair(3, 0)};
        for (int[] two : open) {
            compare(check, x, two, 0, 20, NO_ANSWER);
        }
        compare(check, x, pair(1, 2), 0, 10, NO_ANSWER);
        compare(check, x, pair(1, 2), 0, 11, GREATER);
        compare(check, x, pair(2, 1), 0, 10, NO_ANSWER);
        compare(check, x, pair(2, 1), 0, 11, LESS);
    }

    /** "The result stays as it is." */
    private static void theResultStaysAsItIs(Check check) {
        EnclosureCalculator x = Check.with("1/3", "5", "1/0", "r(-1)");
        int[][] pairs = {pair(0, 1), pair(1, 0), pair(1, 1), pair(0, 2), pair(0, 3), pair(0, 4)};
        for (int[] two : pairs) {
            x.compare(two[0], two[1], 2, 5);
            check.result("none before compare " + two[1], x, -1, 0, 0);
        }
        evaluate(check, x, 0, 4, 1, DONE);
        for (int[] two : pairs) {
            x.compare(two[0], two[1], 2, 5);
            check.result("one before compare " + two[1], x, 4, 5, 6);
        }
    }

    /** "0 when there was none since the beginning or the latest clear" */
    private static void noWorkAtFirst(Check check) {
        EnclosureCalculator x = new EnclosureCalculator();
        check.due("new: work()", x.work(), 0);
        Check.define(x, 0, "1+1");
        x.evaluate(1, 0, 1);
        x.compare(0, 1, 0, 1);
        check.due("refused ones alone: work()", x.work(), 0);
        x.evaluate(0, 0, 1);
        check.due("one evaluate: work()", x.work(), 3);
        x.clear();
        check.due("cleared after evaluate: work()", x.work(), 0);
        Check.define(x, 0, "1+1");
        check.due("cleared and defined: work()", x.work(), 0);
        x.compare(0, 0, 0, 1);
        check.due("one compare: work()", x.work(), 3);
        x.clear();
        check.due("cleared after compare: work()", x.work(), 0);
        x.evaluate(0, 0, 1);
        check.due("cleared, then refused: work()", x.work(), 0);
    }

    /** "in the latest evaluate or compare that was not refused" */
    private static void workOfTheLatest(Check check) {
        EnclosureCalculator x = Check.with("1+1", "7");
        x.evaluate(0, 0, 1);
        check.due("evaluate of three parts: work()", x.work(), 3);
        x.compare(1, 1, 0, 1);
        check.due("then compare of one part: work()", x.work(), 1);
        x.evaluate(0, 0, 1);
        check.due("then evaluate of three parts: work()", x.work(), 3);
        x.compare(0, 1, 0, 1);
        check.due("then compare of both: work()", x.work(), 4);
        x.evaluate(1, 17, 1);
        x.compare(1, 1, 0, 21);
        check.due("then refused ones: work()", x.work(), 4);
        x.evaluate(1, 0, 20);
        check.due("then evaluate of one part: work()", x.work(), 1);
    }
}
