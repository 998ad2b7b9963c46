/** Each sentence that bounds a span, on both sides of its boundary, at the least and the greatest steps. */
public final class BoundarySpansTest {
    private static final int SPAN = EnclosureCalculator.DONE;
    private static final int OPEN = EnclosureCalculator.NO_ANSWER;
    private static final int FALSE = EnclosureCalculator.DOMAIN;

    public static void main(String[] args) {
        Check check = new Check();
        stepsFrom0To18(check);
        falseOperands(check);
        openOperands(check);
        falseBeforeOpen(check);
        rootOfAHighEndBelow0(check);
        rootOfALowEndBelow0(check);
        quotientWith0InTheSpan(check);
        the0InTheFirstOperandIsNone(check);
        endsOf4096(check);
        endsOf4096AtTheFinestStep(check);
        endsOf4096ForEachSort(check);
        endsOf4096OnOneSideAlone(check);
        openAtOneStepAlone(check);
        farResultsDoNotWrapAround(check);
        theLeastInterval(check);
        squareOfTheSameNumberTwice(check);
        anyTwoNumbersOfTheSamePart(check);
        check.end("BoundarySpansTest");
    }

    /**
     * What the last text is at a step. 0 times it is [0, 0] where it has a span, however wide that is;
     * above 16 two and four units of width, [-1, 1] of them once or twice, keep the answer from the steps before.
     */
    private static void state(Check check, int w, int want, String... texts) {
        EnclosureCalculator x = Check.with(texts);
        Check.define(x, 6, "1/3");
        Check.define(x, 6, "g-g");
        Check.define(x, 7, "0*" + (char) ('a' + texts.length - 1) + "+g".repeat(Math.max(w - 16, 0)));
        int p = Math.min(w, 16);
        String what = texts[texts.length - 1] + " at " + w;
        check.due(what, x.evaluate(7, p, w - p + 1), want);
        check.due(what + ": step()", x.step(), want == SPAN ? w : -1);
    }

    /** The span of the last text at the step w, where it is at most a unit wide. */
    private static void span(Check check, int w, long low, long high, String... texts) {
        EnclosureCalculator x = Check.with(texts);
        String what = texts[texts.length - 1] + " at " + w;
        check.due(what, x.evaluate(texts.length - 1, w, 1), SPAN);
        check.result(what, x, w, low, high);
    }

    /** "At the STEP w, 0 .. 18, the UNIT is 2 to the power of -w." */
    private static void stepsFrom0To18(Check check) {
        for (int w = 0; w <= 16; w++) {
            span(check, w, 5L << w, 5L << w, "5");
            span(check, w, (1L << w) / 3, (1L << w) / 3 + 1, "1/3");
        }
        // Two and four units wide: known at the steps 17 and 18 to a precision of 16.
        EnclosureCalculator x = Check.with("1/3", "a-a", "5+b", "5+b+b");
        check.due("two units: evaluate(2, 16, 20)", x.evaluate(2, 16, 20), SPAN);
        check.result("two units", x, 17, (5 << 17) - 1, (5 << 17) + 1);
        check.due("four units: evaluate(3, 16, 20)", x.evaluate(3, 16, 20), SPAN);
        check.result("four units", x, 18, (5 << 18) - 2, (5 << 18) + 2);
    }

    /** "When an operand is FALSE, the part is FALSE" */
    private static void falseOperands(Check check) {
        String[] texts = {"-a", "a+1", "1+a", "a-1", "1-a", "a*0", "0*a", "a/1", "0/a", "a^2", "a^3", "a^4", "a^5", "r(a)"};
        for (String text : texts) {
            for (int w = 0; w <= 18; w += 6) {
                state(check, w, FALSE, "r(-1)", text);
                state(check, w, text.contains("/a") ? OPEN : SPAN, "r(0)", text);
            }
        }
    }

    /** "otherwise, when an operand is OPEN, it is OPEN" */
    private static void openOperands(Check check) {
        String[] texts = {"-a", "a+1", "1+a", "a-1", "1-a", "a*0", "0*a", "a/1", "0/a", "a^2", "a^3", "a^4", "a^5", "r(a)"};
        for (String text : texts) {
            for (int w = 0; w <= 18; w += 6) {
                state(check, w, OPEN, "1/0", text);
                state(check, w, OPEN, "65^2", text);
                state(check, w, SPAN, "1/1", text);
            }
        }
    }

    /** "When an operand is FALSE, the part is FALSE; otherwise ..": FALSE comes before OPEN. */
    private static void falseBeforeOpen(Check check) {
        for (String text : new String[] {"a+b", "b+a", "a-b", "b-a", "a*b", "b*a", "a/b", "b/a", "a/0"}) {
            state(check, 0, FALSE, "r(-1)", "1/0", text);
            state(check, 16, FALSE, "r(-1)", "1/0", text);
            state(check, 3, OPEN, "0", "1/0", text);
        }
    }

    /** "A ROOT is FALSE when the high end of its operand's span is below 0" */
    private static void rootOfAHighEndBelow0(Check check) {
        state(check, 0, FALSE, "r(-1)");
        state(check, 0, SPAN, "r(-0)");
        state(check, 0, SPAN, "r(1)");
        state(check, 16, FALSE, "r(-1/256/256)");
        state(check, 15, OPEN, "r(-1/256/256)");
        state(check, 17, FALSE, "r(-1/256/512)");
        state(check, 18, FALSE, "r(-1/512/512)");
        state(check, 17, OPEN, "r(-1/512/512)");
        // [-1, 0] at the steps to 9, [-2, -1] at 10.
        state(check, 9, OPEN, "r(-1/999)");
        state(check, 10, FALSE, "r(-1/999)");
        // [-2, 0] and [-3, -1]: a high end of 0 and of -1 unit below a low end that is less.
        state(check, 4, OPEN, "1/3", "a-a", "r(b-1/16)");
        state(check, 4, FALSE, "1/3", "a-a", "r(b-1/8)");
    }

    /** "otherwise OPEN when the low end is below 0" */
    private static void rootOfALowEndBelow0(Check check) {
        state(check, 4, OPEN, "1/3", "r(a-a)");
        state(check, 4, OPEN, "1/3", "a-a", "r(b-1/16)");
        state(check, 4, SPAN, "1/3", "a-a", "r(b+1/16)");
        state(check, 16, OPEN, "1/3", "r(a-a)");
        state(check, 16, SPAN, "1/3", "r(a-a+1/256/256)");
        state(check, 18, OPEN, "1/3", "r(a-a)");
        state(check, 18, SPAN, "1/3", "r(a-a+1/512/512)");
        // [0, 1] at the steps to 9.
        state(check, 0, SPAN, "r(1/999)");
        state(check, 9, SPAN, "r(1/999)");
        state(check, 0, OPEN, "r(-1/999)");
        EnclosureCalculator x = Check.with("r(1/17)");
        check.due("the root of [0, 1]: evaluate(0, 2, 3)", x.evaluate(0, 2, 3), SPAN);
        check.result("the root of [0, 1]", x, 4, 0, 4);
    }

    /** "A QUOTIENT is OPEN when 0 lies in the span of its second operand (the ends belong to it)." */
    private static void quotientWith0InTheSpan(Check check) {
        for (int w = 0; w <= 18; w += 3) {
            state(check, w, OPEN, "0/0");
            state(check, w, OPEN, "1/0");
            state(check, w, OPEN, "1/3", "1/(a-a)");
            state(check, w, SPAN, "0/1");
            state(check, w, SPAN, "0/-1");
        }
        // [0, 1] and [-1, 0] at the steps to 9, then [1, 2] and [-2, -1].
        state(check, 9, OPEN, "0/(1/999)");
        state(check, 10, SPAN, "0/(1/999)");
        state(check, 9, OPEN, "0/(-1/999)");
        state(check, 10, SPAN, "0/(-1/999)");
        state(check, 15, OPEN, "0/(1/256/256)");
        state(check, 16, SPAN, "0/(1/256/256)");
        state(check, 17, OPEN, "0/(-1/512/512)");
        state(check, 18, SPAN, "0/(-1/512/512)");
        state(check, 18, OPEN, "0/(1/512/513)");
        state(check, 18, OPEN, "0/(-1/512/513)");
        // [0, 2] and [-2, 0], then [1, 3] and [-3, -1]: an end of 0, and one of a unit.
        state(check, 4, OPEN, "1/3", "a-a", "0/(b+1/16)");
        state(check, 4, SPAN, "1/3", "a-a", "0/(b+1/8)");
        state(check, 4, OPEN, "1/3", "a-a", "0/(b-1/16)");
        state(check, 4, SPAN, "1/3", "a-a", "0/(b-1/8)");
    }

    private static void the0InTheFirstOperandIsNone(Check check) {
        span(check, 3, 0, 0, "0/7");
        span(check, 3, 0, 0, "0/-7");
        span(check, 9, 0, 1, "1/999/1");
        span(check, 9, -1, 0, "1/999/-1");
        state(check, 4, SPAN, "1/3", "(a-a)/7");
    }

    /** "when an end of it is more than 4096 or less than -4096, the part is OPEN" */
    private static void endsOf4096(Check check) {
        for (int w = 0; w <= 16; w++) {
            span(check, w, 4096L << w, 4096L << w, "64*64");
            span(check, w, -4096L << w, -4096L << w, "-64*64");
            // One unit at this step, as a power of a half.
            String unit = w == 0 ? "1" : "1/" + (1 << w / 2) + "/" + (1 << w - w / 2);
            span(check, w, (4096L << w) - 1, (4096L << w) - 1, "64*64-" + unit);
            span(check, w, 1 - (4096L << w), 1 - (4096L << w), "-64*64+" + unit);
            state(check, w, SPAN, "64*64-" + unit);
            state(check, w, OPEN, "64*64+" + unit);
            state(check, w, OPEN, "-64*64-" + unit);
        }
        state(check, 17, SPAN, "64*64");
        state(check, 17, OPEN, "64*64+1/256/512");
        state(check, 17, OPEN, "-64*64-1/256/512");
        state(check, 18, SPAN, "64*64");
        state(check, 18, SPAN, "-64*64");
        state(check, 18, OPEN, "64*64+1/512/512");
        state(check, 18, OPEN, "-64*64-1/512/512");
    }

    /** At step 18 the ends themselves: a high end of 4096 and a unit more, a low end of -4096 and a unit less. */
    private static void endsOf4096AtTheFinestStep(Check check) {
        EnclosureCalculator x = Check.with("1/3", "a-a", "64*64-1/256/512+b+b", "-c", "64*64-1/512/512+b+b", "-e");
        check.due("4096 at 18: evaluate(2, 16, 20)", x.evaluate(2, 16, 20), SPAN);
        check.result("4096 at 18", x, 18, (4096L << 18) - 4, 4096L << 18);
        check.due("-4096 at 18: evaluate(3, 16, 20)", x.evaluate(3, 16, 20), SPAN);
        check.result("-4096 at 18", x, 18, -4096L << 18, 4 - (4096L << 18));
        check.due("a unit above 4096: evaluate(4, 16, 20)", x.evaluate(4, 16, 20), OPEN);
        check.due("a unit below -4096: evaluate(5, 16, 20)", x.evaluate(5, 16, 20), OPEN);
        EnclosureCalculator y = Check.with("1/3", "a-a", "1/512/512-64*64+b+b");
        check.due("a unit below -4096 by a sum: evaluate(2, 16, 20)", y.evaluate(2, 16, 20), OPEN);
    }

    private static void endsOf4096ForEachSort(Check check) {
        for (int w = 0; w <= 18; w += 9) {
            state(check, w, SPAN, "999", "a+a+a+a+100");
            state(check, w, OPEN, "999", "a+a+a+a+101");
            state(check, w, SPAN, "999", "-100-a-a-a-a");
            state(check, w, OPEN, "999", "-101-a-a-a-a");
            state(check, w, SPAN, "64*64");
            state(check, w, OPEN, "17*241");
            state(check, w, SPAN, "-64*64");
            state(check, w, OPEN, "-17*241");
            state(check, w, SPAN, "64^2");
            state(check, w, SPAN, "(-64)^2");
            state(check, w, OPEN, "65^2");
            state(check, w, OPEN, "(-65)^2");
            state(check, w, SPAN, "8^4");
            state(check, w, OPEN, "9^4");
            state(check, w, SPAN, "16^3");
            state(check, w, OPEN, "17^3");
            state(check, w, SPAN, "(-16)^3");
            state(check, w, OPEN, "(-17)^3");
            state(check, w, SPAN, "5^5");
            state(check, w, OPEN, "6^5");
        }
        for (int w = 3; w <= 18; w += 3) {
            state(check, w, SPAN, "512/(1/8)");
            state(check, w, OPEN, "513/(1/8)");
            state(check, w, SPAN, "512/(-1/8)");
            state(check, w, OPEN, "513/(-1/8)");
        }
    }

    /** One end too far is enough, though the other one lies within. */
    private static void endsOf4096OnOneSideAlone(Check check) {
        // 1/3 is [0, 1] at step 0.
        span(check, 0, 4095, 4096, "64*64-1/3");
        state(check, 0, OPEN, "64*64+1/3");
        span(check, 0, -4096, -4095, "1/3-64*64");
        state(check, 0, OPEN, "-64*64-1/3");
        // [0, 1] times 4096 and 4097 at step 0, [-1, 1] times the same.
        state(check, 0, SPAN, "1/3", "64*64*a");
        state(check, 0, SPAN, "1/3", "-64*64*a");
        state(check, 0, SPAN, "1/3", "(64*a)^2");
        state(check, 0, OPEN, "1/3", "(65*a)^2");
        state(check, 0, OPEN, "1/3", "65*a*(65*a)");
        state(check, 0, OPEN, "1/3", "65*a*(-65*a)");
        state(check, 0, SPAN, "1/3", "64*a*(-64*a)");
    }

    /** A part is OPEN at one step and has a span at the next. */
    private static void openAtOneStepAlone(Check check) {
        // 4095 and two thirds: [4095, 4097] at step 0 as a sum of three, then within.
        state(check, 0, OPEN, "64*64-1", "a+1/3+1/3");
        state(check, 1, SPAN, "64*64-1", "a+1/3+1/3");
        EnclosureCalculator x = Check.with("64*64-1", "a+1/3+1/3");
        check.due("OPEN at 0: evaluate(1, 0, 1)", x.evaluate(1, 0, 1), OPEN);
        check.due("not at 1: evaluate(1, 0, 2)", x.evaluate(1, 0, 2), SPAN);
        check.result("not at 1", x, 1, 2 * 4095, 2 * 4096);
    }

    /** The greatest spans at the finest step, made into results that would not fit fewer bits. */
    private static void farResultsDoNotWrapAround(Check check) {
        for (int w = 14; w <= 18; w++) {
            state(check, w, OPEN, "64*64", "a*a");
            state(check, w, OPEN, "64*64", "a*-a");
            state(check, w, OPEN, "64*64", "a^2");
            state(check, w, OPEN, "64*64", "(-a)^2");
            state(check, w, OPEN, "64*64", "a+a");
            state(check, w, OPEN, "64*64", "-a-a");
            state(check, w, OPEN, "64*64", "a/(1/64/128)");
            state(check, w, SPAN, "64*64", "a/a");
            state(check, w, SPAN, "64*64", "r(a)");
            span(check, Math.min(w, 16), 64L << Math.min(w, 16), 64L << Math.min(w, 16), "64*64", "r(a)");
            span(check, Math.min(w, 16), 1L << Math.min(w, 16), 1L << Math.min(w, 16), "64*64", "-a/-a");
        }
        state(check, 18, OPEN, "64*64/(1/512/512)");
        state(check, 18, OPEN, "-64*64/(1/512/512)");
        EnclosureCalculator x = Check.with("1/3", "a-a", "r(64*64)+b+b", "64*64/(64*64)+b+b");
        check.due("64 at 18: evaluate(2, 16, 3)", x.evaluate(2, 16, 3), SPAN);
        check.result("64 at 18", x, 18, (64L << 18) - 2, (64L << 18) + 2);
        check.due("1 at 18: evaluate(3, 16, 3)", x.evaluate(3, 16, 3), SPAN);
        check.result("1 at 18", x, 18, (1L << 18) - 2, (1L << 18) + 2);
    }

    /** "take the least interval, its ends whole numbers of units, that contains all results" */
    private static void theLeastInterval(Check check) {
        // What is whole in units is not widened; a little more and a little less goes outwards.
        span(check, 2, 3, 3, "3/4");
        span(check, 1, 1, 2, "3/4");
        span(check, 2, -3, -3, "-3/4");
        span(check, 1, -2, -1, "-3/4");
        span(check, 1, -2, -1, "3/-4");
        span(check, 2, 9, 9, "3/2*(3/2)");
        span(check, 1, 4, 5, "3/2*(3/2)");
        span(check, 1, -5, -4, "3/2*(-3/2)");
        span(check, 2, 9, 9, "(3/2)^2");
        span(check, 1, 4, 5, "(3/2)^2");
        span(check, 1, 4, 5, "(-3/2)^2");
        span(check, 2, 6, 6, "r(9/4)");
        span(check, 0, 3, 3, "r(9)");
        span(check, 0, 2, 3, "r(8)");
        span(check, 0, 3, 4, "r(10)");
        span(check, 16, 2031616, 2031616, "r(961)");
        span(check, 16, 2030558, 2030559, "r(960)");
        span(check, 16, 2032672, 2032673, "r(962)");
    }

    /** "for a SQUARE the same number twice" */
    private static void squareOfTheSameNumberTwice(Check check) {
        span(check, 0, 0, 1, "1/3", "a-a", "b^2");
        span(check, 16, 0, 1, "1/3", "a-a", "b^2");
        // [0, 1], [-1, 0] and [1, 2]: 0 as an end, and just not in it.
        span(check, 0, 0, 1, "1/3", "a^2");
        span(check, 0, 0, 1, "-1/3", "a^2");
        span(check, 0, 1, 1, "1^2");
        span(check, 0, 1, 1, "(-1)^2");
        span(check, 0, 0, 0, "0^2");
        span(check, 4, 4, 4, "1/2", "a^2");
        span(check, 4, 4, 4, "-1/2", "a^2");
        EnclosureCalculator x = Check.with("4/3", "-4/3", "a^2", "b^2");
        for (int name = 2; name <= 3; name++) {
            check.due("[1, 2] twice: evaluate(" + name + ", 0, 1)", x.evaluate(name, 0, 1), OPEN);
            check.due("[2, 3] twice: evaluate(" + name + ", 0, 2)", x.evaluate(name, 0, 2), OPEN);
            check.due("[5, 6] twice: evaluate(" + name + ", 0, 3)", x.evaluate(name, 0, 3), SPAN);
            check.result("[5, 6] twice", x, 2, 6, 9);
        }
    }

    /** "for a PRODUCT or QUOTIENT any two numbers, also where both operands are the same part" */
    private static void anyTwoNumbersOfTheSamePart(Check check) {
        EnclosureCalculator x = Check.with("1/3", "a-a", "b*b", "a/a", "a-a");
        check.due("[-1, 1] times itself: evaluate(2, 0, 1)", x.evaluate(2, 0, 1), OPEN);
        check.due("[-1, 1] times itself: evaluate(2, 0, 2)", x.evaluate(2, 0, 2), SPAN);
        check.result("[-1, 1] times itself", x, 1, -1, 1);
        check.due("[5, 6] by itself: evaluate(3, 1, 3)", x.evaluate(3, 1, 3), OPEN);
        check.due("[5, 6] by itself: evaluate(3, 1, 4)", x.evaluate(3, 1, 4), SPAN);
        check.result("[5, 6] by itself", x, 4, 13, 20);
        // "The same number twice" is said of a SQUARE alone: of a DIFFERENCE it is any two, too.
        check.due("[5, 6] less itself: evaluate(4, 4, 1)", x.evaluate(4, 4, 1), OPEN);
        check.due("[10, 11] less itself: evaluate(4, 4, 2)", x.evaluate(4, 4, 2), SPAN);
        check.result("[10, 11] less itself", x, 5, -1, 1);
        EnclosureCalculator one = Check.with("7", "a*a", "a/a", "a-a");
        for (int w = 0; w <= 16; w++) {
            long[] due = {49L << w, 1L << w, 0};
            for (int name = 1; name <= 3; name++) {
                check.due("7 and itself: evaluate(" + name + ", " + w + ", 1)", one.evaluate(name, w, 1), SPAN);
                check.result("7 and itself, " + name, one, w, due[name - 1], due[name - 1]);
            }
        }
    }
}
