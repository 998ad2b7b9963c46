/**
 * "An object is used for at most 512 calls after it has been made; what later calls answer is free."
 * The 512th call still answers what is due, whichever it is; after it no call may throw.
 */
public final class BoundaryCallsTest {
    private static final int CALLS = 512;
    private static final int BEGUN = 14;

    private interface Call {
        long on(EnclosureCalculator x);
    }

    public static void main(String[] args) {
        Check check = new Check();
        everyCallAsTheLast(check);
        dearCalls(check);
        cheapCalls(check);
        check.end("BoundaryCallsTest");
    }

    /** Fourteen calls, a name for 8/3 and one for 1/0, a result and a text among them. */
    private static EnclosureCalculator begun() {
        EnclosureCalculator x = Check.with("8/3", "a/0");
        x.evaluate(0, 2, 1);
        for (char c : "a+12".toCharArray()) {
            x.type(c);
        }
        x.parts(0);
        return x;
    }

    private static void everyCallAsTheLast(Check check) {
        Call[] calls = {
            x -> x.type('3') ? 1 : 0, x -> x.type('=') ? 1 : 0, x -> x.erase() ? 1 : 0, x -> x.length(),
            x -> x.define(7), x -> x.define(8), x -> cleared(x), x -> x.parts(1), x -> x.parts(2),
            x -> x.evaluate(0, 16, 20), x -> x.evaluate(1, 0, 20), x -> x.compare(0, 0, 16, 20), x -> x.work(),
            x -> x.step(), x -> x.low(), x -> x.high(), x -> x.decimal(6)
        };
        long[] due = {1, 0, 1, 4, 2, -1, 0, 5, -1, 1, 0, 5, 3, 2, 10, 11, 2625000};
        for (int i = 0; i < calls.length; i++) {
            EnclosureCalculator x = begun();
            for (int call = BEGUN; call < CALLS - 1; call++) {
                check.due("call " + (call + 1) + ": length()", x.length(), 4);
            }
            check.due("call 512 of the kind " + i, calls[i].on(x), due[i]);
            useOn(x, calls);
        }
    }

    private static long cleared(EnclosureCalculator x) {
        x.clear();
        return 0;
    }

    /** What these answer is free. */
    private static void useOn(EnclosureCalculator x, Call[] calls) {
        for (int i = 0; i < 100; i++) {
            for (Call call : calls) {
                call.on(x);
            }
        }
    }

    /** A chain of 80 parts, then the dearest evaluate and compare alone up to the last call. */
    private static void dearCalls(Check check) {
        EnclosureCalculator x = Check.with("1/0");
        int made = 4;
        for (int i = 0; i < 4; i++) {
            Check.define(x, 0, "-".repeat(19) + "a");
            made += 21;
        }
        check.due("79 parts: type(45)", x.type('-'), true);
        check.due("79 parts: type(97)", x.type('a'), true);
        check.due("79 parts: define(0)", x.define(0), 1);
        made += 3;
        for (int call = made; call < CALLS - 1; call++) {
            long got = call % 2 == 0 ? x.evaluate(0, 0, 20) : x.compare(0, 0, 0, 20);
            check.due("call " + (call + 1), got, EnclosureCalculator.NO_ANSWER);
        }
        check.due("call 512: work()", x.work(), 80 * 19);
    }

    /** Texts typed, refused, erased, taken and cleared, up to the last call. */
    private static void cheapCalls(Check check) {
        EnclosureCalculator x = new EnclosureCalculator();
        int call = 0;
        while (call < CALLS - 50) {
            for (int i = 0; i < 20; i++) {
                check.due("call " + (call + i + 1), x.type(i % 2 == 0 ? '7' : '+'), true);
            }
            check.due("a text of 20: define(0)", x.define(0), EnclosureCalculator.SYNTAX);
            check.due("a text of 20: erase()", x.erase(), true);
            check.due("a text of 19: define(0)", x.define(0), 19);
            x.clear();
            call += 24;
        }
        for (int i = call; i < CALLS - 3; i++) {
            check.due("call " + (i + 1) + ": erase()", x.erase(), false);
        }
        check.due("call 510: type(57)", x.type('9'), true);
        check.due("call 511: define(3)", x.define(3), 1);
        check.due("call 512: evaluate(3, 5, 1)", x.evaluate(3, 5, 1), EnclosureCalculator.DONE);
    }
}
