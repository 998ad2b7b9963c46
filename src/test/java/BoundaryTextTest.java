/** Each sentence that bounds the text and its grammar, on both sides of its boundary. */
public final class BoundaryTextTest {
    private static final int SYNTAX = EnclosureCalculator.SYNTAX;
    private static final int UNKNOWN = EnclosureCalculator.UNKNOWN;

    public static void main(String[] args) {
        Check check = new Check();
        atMostTwentyCharacters(check);
        theLastCharacterAlone(check);
        theEmptyText(check);
        typableCodes(check);
        codesThatWrapAround(check);
        noSpaces(check);
        namesAndLetters(check);
        oneToThreeDigits(check);
        anyNumberOfTerms(check);
        anyNumberOfSigns(check);
        digitsBehindAPower(check);
        onePowerAlone(check);
        sixOpenBrackets(check);
        sixOpenBracketsWithARoot(check);
        openAtAnyPlace(check);
        everyBracketIsClosed(check);
        check.end("BoundaryTextTest");
    }

    private static void taken(Check check, String text, long value) {
        EnclosureCalculator x = new EnclosureCalculator();
        Check.typeText(x, text);
        check.due(text + ": length()", x.length(), text.length());
        check.due(text + ": taken", x.define(0) >= 0, true);
        check.due(text + ": evaluate(0, 0, 1)", x.evaluate(0, 0, 1), EnclosureCalculator.DONE);
        check.result(text, x, 0, value, value);
    }

    private static void notInTheGrammar(Check check, String text) {
        EnclosureCalculator x = Check.with("2");
        Check.typeText(x, text);
        check.due(text + ": length()", x.length(), text.length());
        check.due(text + ": define(0)", x.define(0), SYNTAX);
    }

    /** "characters of a TEXT of at most 20"; "refused with false when the text has 20 characters" */
    private static void atMostTwentyCharacters(Check check) {
        EnclosureCalculator x = new EnclosureCalculator();
        for (int i = 0; i < 20; i++) {
            check.due("type(49), the text has " + i, x.type('1'), true);
            check.due("length() after " + i + " and one more", x.length(), i + 1);
        }
        for (int i = 0; i < 3; i++) {
            check.due("type(49), the text has 20", x.type('1'), false);
            check.due("type(43), the text has 20", x.type('+'), false);
            check.due("length() of a full text", x.length(), 20);
        }
        taken(check, "1+1+1+1+1+1+1+1+1+1", 10);
        taken(check, "1+1+1+1+1+1+1+1+1+11", 20);
        check.due("the 21st is not in the text", Check.define(x, 0, ""), SYNTAX);
        x.clear();
        check.due("9 sums and 10 numbers", Check.define(x, 0, "1+1+1+1+1+1+1+1+1+111"), 19);
        x.evaluate(0, 0, 1);
        check.due("the 21st character is not in the text: low()", x.low(), 20);
    }

    /** "Takes the last character of the text away" */
    private static void theLastCharacterAlone(Check check) {
        EnclosureCalculator x = new EnclosureCalculator();
        Check.typeText(x, "1+1+1+1+1+1+1+1+1+17");
        check.due("twenty characters: erase()", x.erase(), true);
        check.due("twenty characters, one erased: length()", x.length(), 19);
        check.due("the place is free again: type(50)", x.type('2'), true);
        check.due("and no second one: type(50)", x.type('2'), false);
        check.due("define(0)", x.define(0), 19);
        x.evaluate(0, 0, 1);
        check.due("7 is taken away, 2 stands there: low()", x.low(), 21);
    }

    /** "refused with false when the text is empty"; "SYNTAX when .. not in the grammar (as the empty one)" */
    private static void theEmptyText(Check check) {
        EnclosureCalculator x = new EnclosureCalculator();
        check.due("empty: erase()", x.erase(), false);
        check.due("empty: define(0)", x.define(0), SYNTAX);
        check.due("empty: length()", x.length(), 0);
        x.type('4');
        check.due("one character: length()", x.length(), 1);
        check.due("one character: erase()", x.erase(), true);
        check.due("erased: erase()", x.erase(), false);
        check.due("erased: define(0)", x.define(0), SYNTAX);
        check.due("one character: define(0)", Check.define(x, 0, "4"), 1);
        check.due("defined: length()", x.length(), 0);
        check.due("defined: erase()", x.erase(), false);
        check.due("defined: define(0)", x.define(0), SYNTAX);
        x.evaluate(0, 0, 1);
        check.due("4: low()", x.low(), 4);
    }

    /** "(The codes: digits 48 .. 57, letters 97 .. 104 and 114, the signs 43, 45, 42, 47, 94, 40, 41.)" */
    private static void typableCodes(Check check) {
        codes(check, Integer.MIN_VALUE, Integer.MIN_VALUE + 1, false);
        codes(check, -1, 39, false);
        codes(check, 40, 43, true);
        codes(check, 44, 44, false);
        codes(check, 45, 45, true);
        codes(check, 46, 46, false);
        codes(check, 47, 57, true);
        codes(check, 58, 93, false);
        codes(check, 94, 94, true);
        codes(check, 95, 96, false);
        codes(check, 97, 104, true);
        codes(check, 105, 113, false);
        codes(check, 114, 114, true);
        codes(check, 115, 300, false);
        codes(check, Integer.MAX_VALUE - 1, Integer.MAX_VALUE, false);
    }

    private static void codes(Check check, long first, long last, boolean typable) {
        for (long c = first; c <= last; c++) {
            EnclosureCalculator x = new EnclosureCalculator();
            check.due("type(" + c + ")", x.type((int) c), typable);
            check.due("type(" + c + "), length()", x.length(), typable ? 1 : 0);
        }
    }

    /** A code that is typable only when cut to 7, 8 or 16 bits, or without its sign, is not typable. */
    private static void codesThatWrapAround(Check check) {
        for (int c : new int[] {40, 41, 42, 43, 45, 47, 48, 57, 94, 97, 104, 114}) {
            for (int far : new int[] {c + 128, c + 256, c + 65536, c - 65536, c - 256, -c, c | Integer.MIN_VALUE, ~c}) {
                codes(check, far, far, false);
            }
            codes(check, c, c, true);
        }
    }

    /** "The grammar (no spaces)" */
    private static void noSpaces(Check check) {
        EnclosureCalculator x = Check.with("1");
        for (int c : new int[] {' ', '\t', '\n', 0, 160}) {
            x.type('1');
            check.due("type(" + c + ")", x.type(c), false);
            x.type('2');
            check.due("12 without what is between: define(0)", x.define(0), 1);
            x.evaluate(0, 0, 1);
            check.due("12 without what is between: low()", x.low(), 12);
        }
    }

    /** "given NAMES 0 .. 7, which are written as the letters a .. h" */
    private static void namesAndLetters(Check check) {
        for (int name = 0; name < 8; name++) {
            EnclosureCalculator x = new EnclosureCalculator();
            check.due("define(" + name + ")", Check.define(x, name, "5"), 1);
            for (int letter = 0; letter < 8; letter++) {
                int want = letter == name ? 0 : UNKNOWN;
                check.due("letter " + letter + ", given " + name, Check.define(x, name, letter(letter)), want);
                Check.eraseText(x);
            }
        }
        EnclosureCalculator x = Check.with("1", "2", "3", "4", "5", "6", "7", "8");
        check.due("type(96)", x.type('a' - 1), false);
        check.due("type(105)", x.type('h' + 1), false);
        check.due("a: define(7)", Check.define(x, 7, "a"), 0);
        x.evaluate(7, 0, 1);
        check.due("a: low()", x.low(), 1);
        for (int name : new int[] {-1, 8, Integer.MIN_VALUE, Integer.MAX_VALUE, 256, 1 << 31 | 7}) {
            check.due("h: define(" + name + ")", Check.define(x, name, "h"), EnclosureCalculator.REFUSED);
            Check.eraseText(x);
        }
    }

    private static String letter(int name) {
        return Character.toString('a' + name);
    }

    /** "number = one to three digits 0 .. 9" */
    private static void oneToThreeDigits(Check check) {
        for (int digit = 0; digit <= 9; digit++) {
            taken(check, "" + digit, digit);
            taken(check, "1" + digit, 10 + digit);
            taken(check, "10" + digit, 100 + digit);
            notInTheGrammar(check, "100" + digit);
        }
        taken(check, "000", 0);
        taken(check, "001", 1);
        taken(check, "999", 999);
        notInTheGrammar(check, "0000");
        notInTheGrammar(check, "0001");
        notInTheGrammar(check, "9999");
        notInTheGrammar(check, "99999999999999999999");
        taken(check, "2+123", 125);
        notInTheGrammar(check, "2+1234");
        notInTheGrammar(check, "1234+2");
        taken(check, "-123", -123);
        notInTheGrammar(check, "-1234");
        taken(check, "r(121)", 11);
        notInTheGrammar(check, "r(0121)");
        taken(check, "010^2", 100);
        notInTheGrammar(check, "0010^2");
        notInTheGrammar(check, "1+");
        notInTheGrammar(check, "()");
        notInTheGrammar(check, "r()");
    }

    /** "then any number of times: + term, or - term"; "any number of times: * factor, or / factor" */
    private static void anyNumberOfTerms(Check check) {
        StringBuilder sum = new StringBuilder("1");
        StringBuilder difference = new StringBuilder("1");
        StringBuilder product = new StringBuilder("2");
        StringBuilder quotient = new StringBuilder("2");
        for (int more = 0; more <= 9; more++) {
            taken(check, sum.toString(), 1 + more);
            taken(check, difference.toString(), 1 - more);
            taken(check, product.toString(), 2 << more);
            EnclosureCalculator x = new EnclosureCalculator();
            check.due(quotient + ": define(0)", Check.define(x, 0, quotient.toString()), 1 + 2 * more);
            x.evaluate(0, 9, 1);
            check.result(quotient.toString(), x, 9, 1024 >> more, 1024 >> more);
            notInTheGrammar(check, sum + "+");
            notInTheGrammar(check, difference + "-");
            notInTheGrammar(check, product + "*");
            notInTheGrammar(check, quotient + "/");
            sum.append("+1");
            difference.append("-1");
            product.append("*2");
            quotient.append("/2");
        }
        // The first term and the first factor are there always.
        for (String text : new String[] {"+1", "*1", "/1", "1+*1", "1-/1", "(*1)", "r(+1)", "1**1", "1++1", "1*+1"}) {
            notInTheGrammar(check, text);
        }
    }

    /** "factor = any number of -, then: atom" */
    private static void anyNumberOfSigns(Check check) {
        StringBuilder signs = new StringBuilder();
        for (int i = 0; i < 20; i++) {
            taken(check, signs + "1", i % 2 == 0 ? 1 : -1);
            if (i < 17) {
                taken(check, "1*" + signs + "1", i % 2 == 0 ? 1 : -1);
            }
            signs.append('-');
            notInTheGrammar(check, signs.toString());
        }
        notInTheGrammar(check, "+1");
        notInTheGrammar(check, "-+1");
    }

    /** "atom ^ digit, where the digit is 2 .. 5" */
    private static void digitsBehindAPower(Check check) {
        int power = 1;
        for (int digit = 0; digit <= 9; digit++) {
            if (digit >= 2 && digit <= 5) {
                taken(check, "3^" + digit, power);
                taken(check, "(-3)^" + digit, digit % 2 == 0 ? power : -power);
            } else {
                notInTheGrammar(check, "3^" + digit);
                notInTheGrammar(check, "(-3)^" + digit);
                notInTheGrammar(check, "a^" + digit + "+1");
            }
            power *= 3;
        }
    }

    /** The digit behind ^ is one, and one ^ alone stands behind an atom. */
    private static void onePowerAlone(Check check) {
        String[] wrong = {"3^", "3^22", "3^02", "3^2^2", "3^^2", "3^a", "3^(2)", "3^-2", "3^r(4)", "3^+2", "^2", "3^2a"};
        for (String text : wrong) {
            notInTheGrammar(check, text);
        }
        taken(check, "(3^2)^2", 81);
        taken(check, "3^2*3^2", 81);
    }

    private static String nested(int open) {
        return "(".repeat(open) + "7" + ")".repeat(open);
    }

    /** "at most 6 brackets are open at any place" */
    private static void sixOpenBrackets(Check check) {
        for (int open = 0; open <= 9; open++) {
            if (open <= 6) {
                taken(check, nested(open), 7);
            } else {
                notInTheGrammar(check, nested(open));
            }
        }
        taken(check, "r(r(r(r(r(r(1))))))", 1);
    }

    /** The bracket of a root is one of the six. */
    private static void sixOpenBracketsWithARoot(Check check) {
        for (int open = 1; open <= 9; open++) {
            for (int root = 0; root < open; root++) {
                String text = "(".repeat(root) + "r" + "(".repeat(open - root) + "9" + ")".repeat(open);
                if (open <= 6) {
                    taken(check, text, 3);
                } else {
                    notInTheGrammar(check, text);
                }
            }
        }
    }

    /** Six at one place, not in all: what was closed again is not open; and the place may be anywhere. */
    private static void openAtAnyPlace(Check check) {
        taken(check, "((((7))))+((((7))))", 14);
        taken(check, "(7)+(7)+(7)+(7)+(7)", 35);
        taken(check, nested(6) + "+(7)", 14);
        notInTheGrammar(check, nested(7) + "+(7)");
        taken(check, "(7)+" + nested(6), 14);
        notInTheGrammar(check, "(7)+" + nested(7));
        taken(check, "7*-" + nested(6), -49);
        notInTheGrammar(check, "7*-" + nested(7));
        taken(check, nested(6) + "^2", 49);
        notInTheGrammar(check, nested(7) + "^2");
        taken(check, "(((((7+(7))))))", 14);
        notInTheGrammar(check, "((((((7+(7)))))))");
        taken(check, "((((((7)+7)+7))))", 21);
        notInTheGrammar(check, "(((((((7)+7)))+7)))");
    }

    private static void everyBracketIsClosed(Check check) {
        for (int open = 1; open <= 6; open++) {
            notInTheGrammar(check, nested(open) + ")");
            notInTheGrammar(check, "(" + nested(open));
            notInTheGrammar(check, nested(open).substring(1));
            notInTheGrammar(check, "(".repeat(open));
            notInTheGrammar(check, ")".repeat(open));
            // Another character does not close it.
            for (char c : "(ar+-*/^".toCharArray()) {
                notInTheGrammar(check, "(" + nested(open - 1) + c);
                notInTheGrammar(check, "r(" + nested(open - 1) + c);
            }
        }
    }
}
