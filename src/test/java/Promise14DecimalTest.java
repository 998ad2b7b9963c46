public final class Promise14DecimalTest {
    public static void main(String[] args) {
        Check check = new Check();
        EnclosureCalculator none = Check.with("5");
        for (int d = -1; d <= 7; d++) {
            check.due("no result: decimal(" + d + ")", none.decimal(d), 0);
        }
        ordinary(check);
        halves(check);
        wrongArguments(check);
        edges(check);
        check.end("Promise14DecimalTest");
    }

    private static EnclosureCalculator evaluated(String text, int p) {
        EnclosureCalculator x = Check.with(text);
        x.evaluate(0, p, 1);
        return x;
    }

    private static void decimals(Check check, String text, int p, long... want) {
        EnclosureCalculator x = evaluated(text, p);
        for (int d = 0; d < want.length; d++) {
            check.due(text + ", p " + p + ": decimal(" + d + ")", x.decimal(d), want[d]);
        }
    }

    private static void ordinary(Check check) {
        decimals(check, "0", 16, 0, 0, 0, 0, 0, 0, 0);
        decimals(check, "5", 0, 5, 50, 500, 5000, 50000, 500000, 5000000);
        decimals(check, "-5", 9, -5, -50, -500, -5000, -50000, -500000, -5000000);
        decimals(check, "1/8", 3, 0, 1, 13, 125, 1250, 12500, 125000);
        decimals(check, "22/7", 16, 3, 31, 314, 3143, 31429, 314286, 3142860);
        decimals(check, "-22/7", 16, -3, -31, -314, -3143, -31429, -314286, -3142860);
    }

    /** Of two equally near the greater: 1/2 goes to 1, -1/2 to 0, -3/2 to -1. */
    private static void halves(Check check) {
        decimals(check, "1/2", 1, 1, 5, 50);
        decimals(check, "-1/2", 1, 0, -5, -50);
        decimals(check, "3/2", 1, 2, 15);
        decimals(check, "-3/2", 1, -1, -15);
        decimals(check, "5/2", 4, 3, 25);
        decimals(check, "-5/2", 4, -2, -25);
        decimals(check, "1/4", 2, 0, 3, 25);
        decimals(check, "-1/4", 2, 0, -2, -25);
        decimals(check, "-3/4", 2, -1, -7, -75);
        // The middle of [0, 1] and of [-1, 0].
        decimals(check, "1/3", 0, 1, 5, 50);
        decimals(check, "-1/3", 0, 0, -5, -50);
    }

    private static void wrongArguments(Check check) {
        EnclosureCalculator x = evaluated("5", 3);
        for (int d : new int[] {-1, 7, 8, 10, 63, 64, Integer.MIN_VALUE, Integer.MAX_VALUE}) {
            check.due("5: decimal(" + d + ")", x.decimal(d), 0);
        }
        check.result("after decimal", x, 3, 40, 40);
        x.clear();
        check.due("cleared: decimal(3)", x.decimal(3), 0);
    }

    private static void edges(Check check) {
        decimals(check, "64*64", 16, 4096, 40960, 409600, 4096000, 40960000, 409600000, 4096000000L);
        decimals(check, "-64*64", 16, -4096, -40960, -409600, -4096000, -40960000, -409600000, -4096000000L);
        EnclosureCalculator x = Check.with("1/3", "64*64-3+a+a+a+a");
        check.due("4094 and a third at step 18", x.evaluate(1, 16, 3), EnclosureCalculator.DONE);
        check.due("4094 and a third: step()", x.step(), 18);
        check.due("4094 and a third: decimal(6)", x.decimal(6), 4094333336L);
    }
}
