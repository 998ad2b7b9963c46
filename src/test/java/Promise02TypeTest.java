public final class Promise02TypeTest {
    private static final String TYPABLE = "0123456789abcdefghr+-*/^()";

    public static void main(String[] args) {
        Check check = new Check();
        everyCode(check);
        fullText(check);
        charactersStandInOrder(check);
        check.end("Promise02TypeTest");
    }

    private static void everyCode(Check check) {
        for (int c = -300; c <= 70000; c++) {
            typeOne(check, c);
        }
        int[] far = {Integer.MIN_VALUE, Integer.MAX_VALUE, 65536 + '1', (1 << 24) + 'a', -'1', 256 + '+'};
        for (int c : far) {
            typeOne(check, c);
        }
    }

    private static void typeOne(Check check, int c) {
        boolean typable = c >= 0 && c < 256 && TYPABLE.indexOf(c) >= 0;
        EnclosureCalculator x = new EnclosureCalculator();
        check.due("type(" + c + ")", x.type(c), typable);
        check.due("type(" + c + "), length()", x.length(), typable ? 1 : 0);
    }

    private static void fullText(Check check) {
        EnclosureCalculator x = new EnclosureCalculator();
        for (int i = 0; i < 20; i++) {
            check.due("type(45), the text has " + i, x.type('-'), true);
        }
        check.due("type(49), the text is full", x.type('1'), false);
        check.due("type(64), the text is full", x.type('@'), false);
        check.due("full: length()", x.length(), 20);
        check.due("full: erase()", x.erase(), true);
        check.due("type(49), one place is free", x.type('1'), true);
        check.due("type(49), full again", x.type('1'), false);
        check.due("full: define(0)", x.define(0), 20);
        x.evaluate(0, 0, 1);
        check.result("nineteen signs before 1", x, 0, -1, -1);
    }

    private static void charactersStandInOrder(Check check) {
        EnclosureCalculator x = Check.with("12-345");
        x.evaluate(0, 0, 1);
        check.due("12-345: low()", x.low(), -333);
        check.due("a refused character is not in the text", x.type(' '), false);
        x.type('6');
        x.type('=');
        x.type('7');
        x.define(0);
        x.evaluate(0, 0, 1);
        check.due("67: low()", x.low(), 67);
    }
}
