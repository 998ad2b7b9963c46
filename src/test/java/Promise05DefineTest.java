public final class Promise05DefineTest {
    private static final int SYNTAX = EnclosureCalculator.SYNTAX;
    private static final int UNKNOWN = EnclosureCalculator.UNKNOWN;
    private static final int FULL = EnclosureCalculator.FULL;
    private static final int REFUSED = EnclosureCalculator.REFUSED;

    public static void main(String[] args) {
        Check check = new Check();
        partsThatAreMade(check);
        textsOutsideTheGrammar(check);
        brackets(check);
        values(check);
        lettersKeepTheirExpression(check);
        orderOfTheFaults(check);
        faultsChangeNothing(check);
        everyName(check);
        theStoreFills(check);
        check.end("Promise05DefineTest");
    }

    private static void partsThatAreMade(Check check) {
        made(check, "0", 1);
        made(check, "007", 1);
        made(check, "999", 1);
        made(check, "a", 0);
        made(check, "(a)", 0);
        made(check, "((((((a))))))", 0);
        made(check, "-a", 1);
        made(check, "---a", 3);
        made(check, "a+a", 1);
        made(check, "a-a", 1);
        made(check, "a*a", 1);
        made(check, "a/a", 1);
        made(check, "r(a)", 1);
        made(check, "a^2", 1);
        made(check, "a^3", 2);
        made(check, "a^4", 2);
        made(check, "a^5", 3);
        made(check, "-a^2", 2);
        made(check, "(-a)^3", 3);
        made(check, "1+1", 3);
        made(check, "1+1+1", 5);
        made(check, "r(r(2))", 3);
        made(check, "r(2)^2", 3);
        made(check, "(1+2)^5", 6);
        made(check, "2*-3", 4);
        made(check, "2--3", 4);
        made(check, "2+-3", 4);
        made(check, "2/--a^2", 5);
        made(check, "a^2*a^3/a^4-a^5", 1 + 2 + 2 + 3 + 3);
        made(check, "1^5*1^5*1^5*1^5*1^5", 24);
    }

    private static void made(Check check, String text, int parts) {
        EnclosureCalculator x = Check.with("2");
        check.due(text + ": define(1)", Check.define(x, 1, text), parts);
        check.due(text + ": length()", x.length(), 0);
        check.due(text + ": given", x.parts(1) >= 0, true);
    }

    private static void textsOutsideTheGrammar(Check check) {
        String[] texts = {
            "", "+", "-", "*", "/", "^", "(", ")", "r", "+1", "*1", "/1", "^2", "1+", "1-", "1*", "1/", "1^",
            "1++1", "1**1", "1//1", "1*+1", "1*/1", "1-*1", "-+1", "()", "r()", "(1", "1)", "(1))", "((1)", ")1(",
            "r1", "r2+1", "ra", "rr(2)", "r(2", "r2)", "1000", "0000", "12345", "1+1000", "1^1", "1^0", "1^6",
            "1^9", "1^22", "1^-2", "1^a", "1^(2)", "1^2^2", "1^^2", "a1", "1a", "ab", "aa", "a(1)", "(1)a",
            "(1)(2)", "1(2)", "(1)2", "2r(2)", "r(2)r(2)", "r(2)3", "a^", "--", "(-)", "(1+)", "(+1)", "1-2+",
            "r^2", "r(", "a^2a", "a^23", "1+(2*3", "-(", "-r", "5-r", "(1a", "(1(",
            "(1r", "r(1a", "(a^2a", "(1(2)", "(1a+b", "((1a)", "(1^", "(12-3/", "(r(2)b"
        };
        for (String text : texts) {
            EnclosureCalculator x = Check.with("2", "3");
            check.due(text + ": define(2)", Check.define(x, 2, text), SYNTAX);
            check.due(text + ": length()", x.length(), text.length());
        }
    }

    private static void brackets(Check check) {
        made(check, "((((((1))))))", 1);
        made(check, "r(r(r(r(r(r(1))))))", 7);
        made(check, "(((1)))+(((1)))", 3);
        made(check, "(1)+(1)+(1)+(1)+(1)", 9);
        EnclosureCalculator x = Check.with("2");
        check.due("seven brackets", Check.define(x, 1, "(((((((a)))))))"), SYNTAX);
        Check.eraseText(x);
        check.due("six brackets, one of a root", Check.define(x, 1, "(((r(((a))))))"), 1);
        check.due("seven brackets, one of a root", Check.define(x, 1, "(((r((((a)))))))"), SYNTAX);
    }

    private static void values(Check check) {
        value(check, "007", 7);
        value(check, "0", 0);
        value(check, "9-4-3", 2);
        value(check, "9-4+3", 8);
        value(check, "8/4/2", 1);
        value(check, "8/4*2", 4);
        value(check, "8*4/2", 16);
        value(check, "2+3*4", 14);
        value(check, "2*3+4", 10);
        value(check, "(2+3)*4", 20);
        value(check, "2-3*4", -10);
        value(check, "20-6/3", 18);
        value(check, "-3^2", -9);
        value(check, "(-3)^2", 9);
        value(check, "--3^2", 9);
        value(check, "---3", -3);
        value(check, "2*-3", -6);
        value(check, "2--3", 5);
        value(check, "3^2", 9);
        value(check, "3^3", 27);
        value(check, "3^4", 81);
        value(check, "3^5", 243);
        value(check, "(-3)^5", -243);
        value(check, "2*3^2", 18);
        value(check, "2^3*5", 40);
        value(check, "r(9)", 3);
        value(check, "r(9)^2", 9);
        value(check, "r(7+9)*2", 8);
        value(check, "-r(16)", -4);
        value(check, "1-(2-(3-4))", -2);
    }

    private static void value(Check check, String text, int value) {
        EnclosureCalculator x = Check.with(text);
        check.due(text + ": evaluate(0, 0, 1)", x.evaluate(0, 0, 1), EnclosureCalculator.DONE);
        check.result(text, x, 0, value, value);
    }

    private static void lettersKeepTheirExpression(Check check) {
        EnclosureCalculator x = Check.with("2", "a+1", "b");
        check.due("5 as a", Check.define(x, 0, "5"), 1);
        x.evaluate(1, 0, 1);
        check.due("a+1 with the old a: low()", x.low(), 3);
        check.due("a*a as a", Check.define(x, 0, "a*a"), 1);
        x.evaluate(0, 0, 1);
        check.due("a*a with the old a: low()", x.low(), 25);
        check.due("100 as b", Check.define(x, 1, "100"), 1);
        x.evaluate(2, 0, 1);
        check.due("the old b: low()", x.low(), 3);
    }

    private static void orderOfTheFaults(Check check) {
        EnclosureCalculator x = new EnclosureCalculator();
        for (int name : new int[] {-1, 8, Integer.MIN_VALUE, Integer.MAX_VALUE}) {
            check.due("empty: define(" + name + ")", x.define(name), REFUSED);
        }
        check.due("b+: define(0)", Check.define(x, 0, "b+"), SYNTAX);
        check.due("b+: define(9)", x.define(9), REFUSED);
        check.due("b+b: define(0)", Check.define(x, 0, "b"), UNKNOWN);
        check.due("b+b: define(8)", x.define(8), REFUSED);
        Check.eraseText(x);
        check.due("its own letter: define(0)", Check.define(x, 0, "a"), UNKNOWN);
        Check.eraseText(x);
        for (char letter = 'a'; letter <= 'h'; letter++) {
            check.due(letter + "*2", Check.define(x, 0, "2*(1+" + letter + ")"), UNKNOWN);
            Check.eraseText(x);
        }
        fill(x);
        check.due("full, 1^5-: define(0)", Check.define(x, 0, "1^5-"), SYNTAX);
        check.due("full, 1^5-e: define(0)", Check.define(x, 0, "e"), UNKNOWN);
        x.erase();
        check.due("full, 1^5-1: define(0)", Check.define(x, 0, "1"), FULL);
        check.due("full, 1^5-1: define(-1)", x.define(-1), REFUSED);
    }

    /** Gives the names 0 to 3 and makes 80 parts. */
    private static void fill(EnclosureCalculator x) {
        x.clear();
        for (int name = 0; name < 4; name++) {
            Check.define(x, name, "-------------------1");
        }
    }

    private static void faultsChangeNothing(Check check) {
        EnclosureCalculator x = Check.with("2");
        x.evaluate(0, 3, 1);
        String[] texts = {"1+1+1+1*(", "1+1+1+1*g", "1+g"};
        for (String text : texts) {
            check.due(text + " is a fault", Check.define(x, 0, text) < 0, true);
            check.due(text + ": length()", x.length(), text.length());
            check.due(text + ": parts(0)", x.parts(0), 1);
            check.result(text, x, 3, 16, 16);
            check.due(text + ": work()", x.work(), 1);
            Check.eraseText(x);
        }
        // What the refused texts would have made is not counted: 1 and 79 more fit.
        for (int i = 0; i < 3; i++) {
            check.due("twenty parts", Check.define(x, 1, "-------------------a"), 19);
        }
        check.due("nineteen parts", Check.define(x, 1, "-------------------a"), 19);
        check.due("three parts", Check.define(x, 1, "---a"), 3);
        check.due("one part more", Check.define(x, 1, "1"), FULL);
    }

    private static void everyName(Check check) {
        EnclosureCalculator x = new EnclosureCalculator();
        for (int name = 0; name < 8; name++) {
            check.due("define(" + name + ")", Check.define(x, name, Integer.toString(100 + name)), 1);
        }
        for (int name = 0; name < 8; name++) {
            x.evaluate(name, 0, 1);
            check.due("name " + name + ": low()", x.low(), 100 + name);
            check.due("letter " + name, Check.define(x, 0, Character.toString('a' + name)), 0);
            x.evaluate(0, 0, 1);
            check.due("letter " + name + ": low()", x.low(), 100 + name);
        }
    }

    private static void theStoreFills(Check check) {
        EnclosureCalculator x = new EnclosureCalculator();
        fill(x);
        check.due("80 made, a letter: define(7)", Check.define(x, 7, "(d)"), 0);
        check.due("80 made: parts(7)", x.parts(7), 20);
        check.due("80 made, one more: define(7)", Check.define(x, 7, "-d"), FULL);
        check.due("80 made, refused: length()", x.length(), 2);
        check.due("80 made, refused: parts(7)", x.parts(7), 20);
        check.due("80 made: evaluate(7, 0, 1)", x.evaluate(7, 0, 1), EnclosureCalculator.DONE);
        check.due("80 made: low()", x.low(), -1);
        x.clear();
        check.due("cleared: define(0)", Check.define(x, 0, "1^5*1^5*1^5*1^5*1^5"), 24);
        check.due("24 made: define(0)", Check.define(x, 0, "1^5*1^5*1^5*1^5*1^5"), 24);
        check.due("48 made: define(0)", Check.define(x, 0, "1^5*1^5*1^5*1^5*1^5"), 24);
        check.due("72 made, seven more: define(0)", Check.define(x, 0, "a^5*a^5"), 7);
        check.due("79 made, one more: define(0)", Check.define(x, 0, "-a"), 1);
        check.due("80 made by redefining: define(0)", Check.define(x, 0, "1"), FULL);
        x.clear();
        for (int i = 0; i < 3; i++) {
            Check.define(x, 0, "1^5*1^5*1^5*1^5*1^5");
        }
        check.due("72 made, nine would be more", Check.define(x, 0, "a^5*a^5--a"), FULL);
        check.due("72 made, refused: length()", x.length(), 10);
    }
}
