public final class Promise13HighTest {
    public static void main(String[] args) {
        Check check = new Check();
        EnclosureCalculator x = Check.with("22/7", "-a", "0", "64*64", "-d", "1/0");
        check.due("no result: high()", x.high(), 0);
        high(check, x, 0, 0, 4);
        high(check, x, 0, 4, 51);
        high(check, x, 0, 16, 205971);
        high(check, x, 1, 0, -3);
        high(check, x, 1, 4, -50);
        high(check, x, 1, 16, -205970);
        high(check, x, 2, 16, 0);
        high(check, x, 3, 16, 4096L << 16);
        high(check, x, 4, 16, -4096L << 16);
        x.compare(0, 1, 3, 3);
        check.due("after compare: high()", x.high(), -4096L << 16);
        x.evaluate(5, 0, 1);
        check.due("after NO_ANSWER: high()", x.high(), 0);
        x.evaluate(0, 4, 1);
        x.clear();
        check.due("cleared: high()", x.high(), 0);
        check.end("Promise13HighTest");
    }

    private static void high(Check check, EnclosureCalculator x, int name, int p, long want) {
        x.evaluate(name, p, 1);
        check.due("name " + name + ", p " + p + ": high()", x.high(), want);
    }
}
