import java.util.ArrayList;
import java.util.List;

/**
 * "A call that is refused changes nothing." Two objects go the same way to a state; the first is
 * refused a call there, and both must answer alike ever after: the text, the names, the parts that
 * may still be made, the result and the work.
 */
public final class RefusedCallsTest {
    private static final int REFUSED = EnclosureCalculator.REFUSED;
    private static final int SYNTAX = EnclosureCalculator.SYNTAX;
    private static final int UNKNOWN = EnclosureCalculator.UNKNOWN;
    private static final int FULL = EnclosureCalculator.FULL;
    private static final int FALSE = 0;
    private static final int[] FAR = {Integer.MIN_VALUE, -1, Integer.MAX_VALUE};

    private interface Call {
        long on(EnclosureCalculator x);
    }

    /** A way to a state. */
    private enum State {
        NEW, CLEARED, DEFINED, RESULT, RESULT_AT_18, NO_ANSWER, DOMAIN, COMPARED, TYPING, FULL_TEXT, FULL_STORE;

        EnclosureCalculator reach() {
            EnclosureCalculator x = new EnclosureCalculator();
            if (this == NEW) {
                return x;
            }
            for (int name = 0; name < TEXTS.length; name++) {
                Check.define(x, name, TEXTS[name]);
            }
            switch (this) {
                case CLEARED -> x.clear();
                case RESULT -> x.evaluate(0, 4, 1);
                case RESULT_AT_18 -> x.evaluate(1, 16, 20);
                case NO_ANSWER -> x.evaluate(2, 5, 4);
                case DOMAIN -> x.evaluate(3, 5, 4);
                case COMPARED -> {
                    x.evaluate(0, 4, 1);
                    x.compare(1, 4, 3, 3);
                }
                case TYPING -> {
                    x.evaluate(4, 2, 1);
                    Check.typeText(x, "12+3*a");
                }
                case FULL_TEXT -> {
                    x.evaluate(0, 7, 1);
                    Check.typeText(x, "1+2*3-4/8+5^2-r(9)+a");
                }
                case FULL_STORE -> {
                    x.evaluate(0, 6, 1);
                    fill(x);
                }
                default -> { }
            }
            return x;
        }
    }

    /** The names 0 to 4; the names 5, 6 and 7 are not given. */
    private static final String[] TEXTS = {"1/3", "a+a+a+a", "1/0", "r(-1)", "7-2"};

    public static void main(String[] args) {
        Check check = new Check();
        for (State state : State.values()) {
            refusedCharacters(check, state);
            refusedNames(check, state);
            refusedNumbers(check, state);
        }
        fullText(check);
        emptyText(check);
        refusedTexts(check);
        fullStore(check);
        absoluteAnswers(check);
        check.end("RefusedCallsTest");
    }

    /** Makes 65 parts beside the 15 of the names. */
    private static void fill(EnclosureCalculator x) {
        for (int i = 0; i < 3; i++) {
            Check.define(x, 0, "-------------------a");
        }
        Check.define(x, 0, "--------a");
    }

    private static void refused(Check check, State state, String texts, String name, Call call, long answer) {
        EnclosureCalculator one = state.reach();
        EnclosureCalculator other = state.reach();
        Check.typeText(one, texts);
        Check.typeText(other, texts);
        String what = state + " " + texts + ": " + name;
        List<Long> before = look(one);
        check.due(what, call.on(one), answer);
        check.due(what + ": what can be seen changes", look(one).equals(before), true);
        List<Long> got = everything(one);
        List<Long> due = everything(other);
        check.due(what + ": answers afterwards " + got + ", due " + due, got.equals(due), true);
    }

    private static void refused(Check check, State state, String name, Call call) {
        refused(check, state, "", name, call, REFUSED);
    }

    /** What can be seen without changing anything. */
    private static List<Long> look(EnclosureCalculator x) {
        List<Long> seen = new ArrayList<>();
        seen.add((long) x.length());
        seen.add((long) x.work());
        seen.add((long) x.step());
        seen.add(x.low());
        seen.add(x.high());
        for (int d = 0; d <= 6; d++) {
            seen.add(x.decimal(d));
        }
        for (int name = 0; name < 8; name++) {
            seen.add((long) x.parts(name));
        }
        return seen;
    }

    /** All that can be found out about an object; it is changed by it. */
    private static List<Long> everything(EnclosureCalculator x) {
        List<Long> seen = new ArrayList<>(look(x));
        for (int name = 0; name < 8; name++) {
            evaluated(x, name, seen);
        }
        wholeText(x, seen);
        partsThatMayBeMade(x, seen);
        return seen;
    }

    private static void evaluated(EnclosureCalculator x, int name, List<Long> seen) {
        seen.add((long) x.evaluate(name, 5, 5));
        seen.add((long) x.work());
        seen.add((long) x.step());
        seen.add(x.low());
        seen.add(x.high());
    }

    /** Characters go from the end of the text until the rest can be taken. */
    private static void wholeText(EnclosureCalculator x, List<Long> seen) {
        for (int i = 0; i < 20 && x.length() > 0; i++) {
            seen.add((long) x.define(7));
            x.erase();
        }
        evaluated(x, 7, seen);
    }

    /** Twenty parts as often as they are free, then one less and one less until they are. */
    private static void partsThatMayBeMade(EnclosureCalculator x, List<Long> seen) {
        for (int i = 0; i <= 80 && x.length() == 0; i += 20) {
            seen.add((long) Check.define(x, 6, "-------------------5"));
        }
        for (int i = 0; i < 20 && x.length() > 1; i++) {
            x.erase();
            x.erase();
            x.type('5');
            seen.add((long) x.define(6));
        }
    }

    private static void refusedCharacters(Check check, State state) {
        int[] codes = {0, 32, 39, 44, 46, 58, 65, 93, 95, 96, 105, 113, 115, 65536 + '1', 256 + '+', -'1'};
        for (int c : codes) {
            refused(check, state, "", "type(" + c + ")", x -> x.type(c) ? 1 : 0, FALSE);
        }
        for (int c : FAR) {
            refused(check, state, "", "type(" + c + ")", x -> x.type(c) ? 1 : 0, FALSE);
        }
    }

    private static void refusedNames(Check check, State state) {
        int[] wrong = {Integer.MIN_VALUE, -8, -1, 8, 9, 256, Integer.MAX_VALUE};
        for (int name : wrong) {
            refused(check, state, "define(" + name + ")", x -> x.define(name));
        }
        int[] notGiven = {Integer.MIN_VALUE, -1, 5, 6, 7, 8, Integer.MAX_VALUE};
        for (int name : notGiven) {
            refused(check, state, "parts(" + name + ")", x -> x.parts(name));
            refused(check, state, "evaluate(" + name + ", 3, 3)", x -> x.evaluate(name, 3, 3));
            refused(check, state, "compare(0, " + name + ", 3, 3)", x -> x.compare(0, name, 3, 3));
            refused(check, state, "compare(" + name + ", 0, 3, 3)", x -> x.compare(name, 0, 3, 3));
            refused(check, state, "compare(" + name + ", " + name + ", 3, 3)", x -> x.compare(name, name, 3, 3));
        }
    }

    private static void refusedNumbers(Check check, State state) {
        int[][] wrong = {
            {-1, 3}, {17, 3}, {18, 3}, {Integer.MIN_VALUE, 3}, {Integer.MAX_VALUE, 3},
            {3, 0}, {3, -1}, {3, 21}, {3, Integer.MIN_VALUE}, {3, Integer.MAX_VALUE}, {-1, 0}, {17, 21}
        };
        for (int[] w : wrong) {
            String numbers = w[0] + ", " + w[1] + ")";
            for (int name = 0; name < 5; name += 2) {
                int first = name;
                refused(check, state, "evaluate(" + name + ", " + numbers, x -> x.evaluate(first, w[0], w[1]));
                refused(check, state, "compare(" + name + ", 1, " + numbers, x -> x.compare(first, 1, w[0], w[1]));
            }
        }
        for (int d : new int[] {-1, 7, Integer.MIN_VALUE, Integer.MAX_VALUE}) {
            refused(check, state, "", "decimal(" + d + ")", x -> x.decimal(d), 0);
        }
    }

    private static void fullText(Check check) {
        for (char c : "0159acehr+-*/^()".toCharArray()) {
            refused(check, State.FULL_TEXT, "", "type(" + c + ")", x -> x.type(c) ? 1 : 0, FALSE);
            refused(check, State.NEW, "12345678901234567890", "type(" + c + ")", x -> x.type(c) ? 1 : 0, FALSE);
            refused(check, State.RESULT, "a+1+1+1+1+1+1+1+1+10", "type(" + c + ")", x -> x.type(c) ? 1 : 0, FALSE);
        }
    }

    private static void emptyText(Check check) {
        for (State state : State.values()) {
            if (state != State.TYPING && state != State.FULL_TEXT) {
                refused(check, state, "", "erase()", x -> x.erase() ? 1 : 0, FALSE);
                for (int name = 0; name < 8; name++) {
                    int to = name;
                    refused(check, state, "", "define(" + name + ")", x -> x.define(to), SYNTAX);
                }
            }
        }
    }

    private static void refusedTexts(Check check) {
        String[] notInTheGrammar = {
            "+", "1+", "1+1+1+1*", "a+a+", "(a", "a)", "a^6", "a^2^2", "1000", "1+1+1+1+1234", "(((((((a)))))))", "aa",
            "r(a)r", "1+1+1+1+1+1+1+1+1+1-", "g+", "(1+1", "r", "1^5*1^5*1^5*1^5*1^6"
        };
        String[] unknown = {"g", "1+g", "g+1", "1+1+1+1*g", "r(g)", "g^5", "-g", "a+a+h", "h*a", "1^5*1^5*1^5*1^5*f"};
        for (State state : State.values()) {
            if (state == State.TYPING || state == State.FULL_TEXT) {
                continue;
            }
            for (int name : new int[] {0, 3, 7}) {
                for (String text : notInTheGrammar) {
                    refused(check, state, text, "define(" + name + ")", x -> x.define(name), SYNTAX);
                }
                for (String text : unknown) {
                    refused(check, state, text, "define(" + name + ")", x -> x.define(name), UNKNOWN);
                }
            }
            refused(check, state, "1+1+1", "define(8)", x -> x.define(8), REFUSED);
        }
        refused(check, State.TYPING, "*", "define(0)", x -> x.define(0), SYNTAX);
        refused(check, State.TYPING, "*g", "define(0)", x -> x.define(0), UNKNOWN);
    }

    private static void fullStore(Check check) {
        for (String text : new String[] {"5", "-a", "a+b", "a-b", "a*b", "a/b", "r(a)", "a^2", "a^5", "1^5*1^5*1^5*1^5*1^5"}) {
            for (int name : new int[] {0, 3, 7}) {
                refused(check, State.FULL_STORE, text, "define(" + name + ")", x -> x.define(name), FULL);
            }
        }
        EnclosureCalculator x = new EnclosureCalculator();
        for (int i = 0; i < 3; i++) {
            Check.define(x, i, "-------------------1");
        }
        check.due("19 more", Check.define(x, 3, "1^5*1^5*1^5*1^5"), 19);
        check.due("2 more, and one is free", Check.define(x, 4, "a+1"), FULL);
        check.due("the text is there still: length()", x.length(), 3);
        x.erase();
        x.type('a');
        check.due("1 more", x.define(4), 1);
        check.due("a+a of twenty parts: parts(4)", x.parts(4), 21);
    }

    /** The same once more with the answers written out, beside the twin's. */
    private static void absoluteAnswers(Check check) {
        EnclosureCalculator x = State.TYPING.reach();
        Call[] calls = {
            y -> y.type(' ') ? 1 : 0, y -> y.define(8), y -> y.define(-1), y -> y.parts(5), y -> y.evaluate(5, 3, 3),
            y -> y.evaluate(0, 17, 3), y -> y.evaluate(0, 3, 21), y -> y.evaluate(0, -1, 3), y -> y.evaluate(0, 3, 0),
            y -> y.compare(0, 5, 3, 3), y -> y.compare(5, 0, 3, 3), y -> y.compare(0, 1, 17, 3),
            y -> y.compare(0, 1, 3, 21), y -> y.compare(0, 1, -1, 3), y -> y.compare(0, 1, 3, 0)
        };
        int[] parts = {3, 6, 3, 3, 3, -1, -1, -1};
        for (Call call : calls) {
            check.due("refused", call.on(x) <= 0, true);
            check.due("12+3*a: length()", x.length(), 6);
            check.result("7-2", x, 2, 20, 20);
            check.due("7-2: work()", x.work(), 3);
            for (int name = 0; name < 8; name++) {
                check.due("parts(" + name + ")", x.parts(name), parts[name]);
            }
        }
        check.due("12+3*a: define(5)", x.define(5), 4);
        check.due("12+3*a: evaluate(5, 4, 4)", x.evaluate(5, 4, 4), EnclosureCalculator.DONE);
        check.result("12+3*a", x, 6, 831, 834);
        check.due("12+3*a: work()", x.work(), 21);
    }
}
