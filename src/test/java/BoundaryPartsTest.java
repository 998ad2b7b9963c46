/** Each sentence that bounds parts, names and define, on both sides of its boundary. */
public final class BoundaryPartsTest {
    private static final int REFUSED = EnclosureCalculator.REFUSED;
    private static final int SYNTAX = EnclosureCalculator.SYNTAX;
    private static final int UNKNOWN = EnclosureCalculator.UNKNOWN;
    private static final int FULL = EnclosureCalculator.FULL;
    private static final int DONE = EnclosureCalculator.DONE;

    public static void main(String[] args) {
        Check check = new Check();
        noneForOneLetter(check);
        everyOtherPieceMakesNewParts(check);
        powersMakeParts(check);
        eightyPartsInAll(check);
        eightyForEveryPieceOfAText(check);
        untilEverythingIsCleared(check);
        aNewNameFreesNoPart(check);
        aRefusedTextMakesNoPart(check);
        theEightiethPartIsWorkedOut(check);
        eachPartOnce(check);
        partsOfANameThatWasGiven(check);
        namesThatMayBeGiven(check);
        whetherOrNotTheNameWasGiven(check);
        lettersThatWereNotGiven(check);
        theFirstFaultThatHolds(check);
        theVeryExpression(check);
        check.end("BoundaryPartsTest");
    }

    private static void made(Check check, int parts, String text) {
        EnclosureCalculator x = Check.with("2");
        check.due(text + ": define(1)", Check.define(x, 1, text), parts);
    }

    /** An object with so many parts made in all, under the name 0; at most 80. */
    private static EnclosureCalculator having(int parts) {
        EnclosureCalculator x = Check.with("1");
        for (int left = parts - 1; left > 0; left -= 19) {
            Check.define(x, 0, "-".repeat(Math.min(left, 19)) + "a");
        }
        return x;
    }

    /** "(None for a text that is one letter.)"; "A letter makes no part" */
    private static void noneForOneLetter(Check check) {
        made(check, 0, "a");
        made(check, 0, "(a)");
        made(check, 0, "((((((a))))))");
        made(check, 1, "-a");
        made(check, 1, "2");
        made(check, 1, "a+a");
        EnclosureCalculator x = Check.with("2", "a");
        x.compare(0, 1, 3, 1);
        check.due("the very part has two names: work()", x.work(), 1);
    }

    /** "Every other piece of a text makes new parts, also where it says the same as another one." */
    private static void everyOtherPieceMakesNewParts(Check check) {
        made(check, 3, "2+2");
        made(check, 5, "r(2)+r(2)");
        made(check, 3, "a^2+a^2");
        made(check, 3, "-a--a");
        EnclosureCalculator x = Check.with("2", "2");
        x.compare(0, 1, 3, 1);
        check.due("the same text twice: work()", x.work(), 2);
        check.due("a*b: define(2)", Check.define(x, 2, "a*b"), 1);
        check.due("a*b: parts(2)", x.parts(2), 3);
        check.due("a*a: define(2)", Check.define(x, 2, "a*a"), 1);
        check.due("a*a: parts(2)", x.parts(2), 2);
    }

    /** "x ^ 2 is a SQUARE of x; for k > 2 .. a SQUARE .. when k is even, and a PRODUCT .. when k is odd" */
    private static void powersMakeParts(Check check) {
        made(check, 1, "a^2");
        made(check, 2, "a^3");
        made(check, 2, "a^4");
        made(check, 3, "a^5");
        // Of [-1, 1] a SQUARE has no number below 0, a PRODUCT has.
        long[] lows = {0, -1, 0, -1};
        for (int k = 2; k <= 5; k++) {
            EnclosureCalculator x = Check.with("1/3", "a-a", "b^" + k);
            int step = k % 2 == 0 ? 3 : 4;
            check.due("[-1, 1]^" + k + ": evaluate(2, 3, 2)", x.evaluate(2, 3, 2), DONE);
            check.result("[-1, 1]^" + k, x, step, lows[k - 2], 1);
        }
    }

    /** "At most 80 parts are made in all"; "FULL when more than 80 parts would have been made in all" */
    private static void eightyPartsInAll(Check check) {
        for (int before = 60; before <= 80; before++) {
            for (int more = 1; more <= 20; more++) {
                EnclosureCalculator x = having(before);
                String text = "-".repeat(more - 1) + "1";
                int want = before + more <= 80 ? more : FULL;
                check.due(before + " made, " + more + " more", Check.define(x, 1, text), want);
                check.due(before + " made, " + more + " more: length()", x.length(), want == FULL ? more : 0);
            }
            check.due(before + " made, none more", Check.define(having(before), 1, "a"), 0);
        }
    }

    /** Whichever piece would be the 81st. */
    private static void eightyForEveryPieceOfAText(Check check) {
        String[] texts = {"7", "-a", "a+a", "a-a", "a*a", "a/a", "a^2", "a^3", "a^4", "a^5", "r(a)", "1/(2+a)", "r(a^2)-3"};
        int[] parts = {1, 1, 1, 1, 1, 1, 1, 2, 2, 3, 1, 4, 4};
        for (int i = 0; i < texts.length; i++) {
            EnclosureCalculator last = having(80 - parts[i]);
            check.due(texts[i] + " to 80", Check.define(last, 1, texts[i]), parts[i]);
            check.due(texts[i] + " to 80, one more", Check.define(last, 1, "1"), FULL);
            EnclosureCalculator first = having(81 - parts[i]);
            check.due(texts[i] + " to 81", Check.define(first, 1, texts[i]), FULL);
            check.due(texts[i] + " to 81: parts(1)", first.parts(1), REFUSED);
        }
    }

    /** "until everything is cleared" */
    private static void untilEverythingIsCleared(Check check) {
        EnclosureCalculator x = having(80);
        check.due("80 made, one more", Check.define(x, 1, "1"), FULL);
        x.clear();
        for (int i = 0; i < 4; i++) {
            check.due("cleared, 20 more", Check.define(x, i, "-------------------1"), 20);
        }
        check.due("80 made again, one more", Check.define(x, 4, "1"), FULL);
    }

    /** Parts that no name reaches any more are made nevertheless. */
    private static void aNewNameFreesNoPart(Check check) {
        EnclosureCalculator x = new EnclosureCalculator();
        for (int i = 0; i < 80; i++) {
            check.due("number " + i, Check.define(x, 0, "9"), 1);
            check.due("number " + i + ": parts(0)", x.parts(0), 1);
        }
        check.due("the 81st number", Check.define(x, 0, "9"), FULL);
    }

    private static void aRefusedTextMakesNoPart(Check check) {
        String[] texts = {"1+1+1+1+", "1+1+1+1+h", "(1+1+1+1", "1+1+1+1)"};
        for (String text : texts) {
            EnclosureCalculator x = having(61);
            for (int i = 0; i < 10; i++) {
                check.due(text + " is a fault", Check.define(x, 1, text) < 0, true);
                Check.eraseText(x);
            }
            check.due(text + " ten times: one too many", Check.define(x, 1, "-------------------1"), FULL);
            x.erase();
            x.erase();
            check.due(text + " ten times: 80", Check.define(x, 1, "1"), 19);
            check.due(text + " ten times: 81", Check.define(x, 1, "1"), FULL);
        }
    }

    private static void theEightiethPartIsWorkedOut(Check check) {
        EnclosureCalculator x = having(79);
        check.due("the 80th", Check.define(x, 7, "321"), 1);
        check.due("the 80th: evaluate(7, 2, 1)", x.evaluate(7, 2, 1), DONE);
        check.result("the 80th", x, 2, 4 * 321, 4 * 321);
        x = having(79);
        check.due("the 80th of a chain", Check.define(x, 0, "-a"), 1);
        check.due("a chain of 80: parts(0)", x.parts(0), 80);
        check.due("a chain of 80: evaluate(0, 0, 1)", x.evaluate(0, 0, 1), DONE);
        check.result("79 signs before 1", x, 0, -1, -1);
        check.due("a chain of 80: work()", x.work(), 80);
    }

    /** "The parts OF an expression are the part that it is, the operands of that .. each part once." */
    private static void eachPartOnce(Check check) {
        EnclosureCalculator x = Check.with("1");
        for (int i = 2; i <= 80; i++) {
            Check.define(x, 0, "a*a");
            check.due("a*a, again and again: parts(0)", x.parts(0), i);
        }
        EnclosureCalculator y = Check.with("5", "a^5", "b^5*a-b");
        check.due("one part: parts(0)", y.parts(0), 1);
        check.due("a^5: parts(1)", y.parts(1), 4);
        check.due("b^5*a-b: parts(2)", y.parts(2), 4 + 3 + 2);
    }

    /** "The number of parts of the expression with that name; REFUSED when there is none." */
    private static void partsOfANameThatWasGiven(Check check) {
        for (int given = 0; given < 8; given++) {
            EnclosureCalculator x = new EnclosureCalculator();
            Check.define(x, given, "1+1");
            for (int name = -3; name <= 10; name++) {
                check.due("given " + given + ": parts(" + name + ")", x.parts(name), name == given ? 3 : REFUSED);
            }
            for (int far : new int[] {given + 256, given - 256, given + 65536, given | Integer.MIN_VALUE, ~given}) {
                check.due("given " + given + ": parts(" + far + ")", x.parts(far), REFUSED);
            }
        }
    }

    /** "REFUSED when name is not 0 .. 7" */
    private static void namesThatMayBeGiven(Check check) {
        for (int name = -3; name <= 10; name++) {
            EnclosureCalculator x = Check.with("1");
            boolean may = name >= 0 && name <= 7;
            check.due("a+1: define(" + name + ")", Check.define(x, name, "a+1"), may ? 2 : REFUSED);
            check.due("a+1: define(" + name + "), length()", x.length(), may ? 0 : 3);
        }
        for (int far : new int[] {Integer.MIN_VALUE, Integer.MIN_VALUE + 7, 256, 65536, Integer.MAX_VALUE}) {
            check.due("1: define(" + far + ")", Check.define(new EnclosureCalculator(), far, "1"), REFUSED);
        }
    }

    /** "Gives the name to the expression that the text is, whether or not the name was given before" */
    private static void whetherOrNotTheNameWasGiven(Check check) {
        EnclosureCalculator x = new EnclosureCalculator();
        for (int value = 1; value <= 3; value++) {
            for (int name = 0; name < 8; name++) {
                check.due("define(" + name + ")", Check.define(x, name, "" + value + name), 1);
                check.due("evaluate(" + name + ", 0, 1)", x.evaluate(name, 0, 1), DONE);
                check.due("name " + name + " for the time " + value, x.low(), value * 10 + name);
            }
        }
    }

    /** "UNKNOWN when a letter in it is a name that was not given" */
    private static void lettersThatWereNotGiven(Check check) {
        for (char letter = 'a'; letter <= 'h'; letter++) {
            String[] texts = {"" + letter, "-" + letter, "1+" + letter, letter + "*1", "r(" + letter + ")", letter + "^2"};
            for (String text : texts) {
                EnclosureCalculator x = new EnclosureCalculator();
                check.due(text + ", not given", Check.define(x, letter - 'a', text), UNKNOWN);
                check.due(text + ", not given: parts", x.parts(letter - 'a'), REFUSED);
                Check.eraseText(x);
                Check.define(x, letter - 'a', "4");
                check.due(text + ", given", Check.define(x, letter - 'a', text) >= 0, true);
                x.clear();
                check.due(text + ", cleared", Check.define(x, letter - 'a', text), UNKNOWN);
            }
        }
        EnclosureCalculator x = Check.with("4");
        check.due("a+a+a+b", Check.define(x, 1, "a+a+a+b"), UNKNOWN);
        Check.eraseText(x);
        check.due("b+a+a+a", Check.define(x, 1, "b+a+a+a"), UNKNOWN);
    }

    /** "The first of these that holds, changing nothing": every two of the four faults at once. */
    private static void theFirstFaultThatHolds(Check check) {
        for (int faults = 0; faults < 16; faults++) {
            EnclosureCalculator x = having((faults & 8) != 0 ? 80 : 70);
            String unknown = (faults & 4) != 0 ? "h" : "a";
            String syntax = (faults & 2) != 0 ? "+" : "";
            int name = (faults & 1) != 0 ? 8 : 1;
            int want = 4;
            int[] inOrder = {FULL, UNKNOWN, SYNTAX, REFUSED};
            for (int i = 0; i < 4; i++) {
                want = (faults & 8 >> i) != 0 ? inOrder[i] : want;
            }
            String text = "1-1*" + unknown + syntax;
            check.due(text + ", faults " + faults, Check.define(x, name, text), want);
            check.due(text + ", faults " + faults + ": length()", x.length(), want < 0 ? text.length() : 0);
        }
        // A fault of the grammar at the very end, behind an unknown letter and the 81st part.
        EnclosureCalculator x = having(80);
        check.due("h+1+1+1+1+1+1+1(", Check.define(x, 0, "h+1+1+1+1+1+1+1("), SYNTAX);
        Check.eraseText(x);
        check.due("1+1+1+1+1+1+1+1+h", Check.define(x, 0, "1+1+1+1+1+1+1+1+h"), UNKNOWN);
    }

    /** "it stands for the very expression that has this name when the text is taken, and goes on doing so" */
    private static void theVeryExpression(Check check) {
        EnclosureCalculator x = Check.with("3", "a+1");
        Check.define(x, 0, "50");
        x.evaluate(1, 0, 1);
        check.due("a+1 with the 3 of then: low()", x.low(), 4);
        check.due("a+a with its own name: define(0)", Check.define(x, 0, "a+a"), 1);
        x.evaluate(0, 0, 1);
        check.due("a+a with its own name: low()", x.low(), 100);
        EnclosureCalculator y = Check.with("3", "a+1");
        y.compare(0, 1, 0, 1);
        check.due("a and a+1: work()", y.work(), 3);
        Check.define(y, 0, "3");
        y.compare(0, 1, 0, 1);
        check.due("another a and a+1: work()", y.work(), 4);
    }
}
