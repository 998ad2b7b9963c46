public final class Promise12LowTest {
    public static void main(String[] args) {
        Check check = new Check();
        EnclosureCalculator x = Check.with("22/7", "-a", "0", "64*64", "-d", "1/0");
        check.due("no result: low()", x.low(), 0);
        low(check, x, 0, 0, 3);
        low(check, x, 0, 4, 50);
        low(check, x, 0, 16, 205970);
        low(check, x, 1, 0, -4);
        low(check, x, 1, 4, -51);
        low(check, x, 1, 16, -205971);
        low(check, x, 2, 16, 0);
        low(check, x, 3, 16, 4096L << 16);
        low(check, x, 4, 16, -4096L << 16);
        x.compare(0, 1, 3, 3);
        check.due("after compare: low()", x.low(), -4096L << 16);
        x.evaluate(5, 0, 1);
        check.due("after NO_ANSWER: low()", x.low(), 0);
        x.evaluate(0, 4, 1);
        x.clear();
        check.due("cleared: low()", x.low(), 0);
        check.end("Promise12LowTest");
    }

    private static void low(Check check, EnclosureCalculator x, int name, int p, long want) {
        x.evaluate(name, p, 1);
        check.due("name " + name + ", p " + p + ": low()", x.low(), want);
    }
}
