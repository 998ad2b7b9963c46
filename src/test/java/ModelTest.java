/** Long runs of calls, each answer held against the model's; the runs are the same every time. */
public final class ModelTest {
    private static final int RUNS = 2500;
    private static final int CALLS = 512;
    // A text of 21 characters typed, a define between two lengths, twenty erased and a clear.
    private static final int MOST_CALLS_AT_ONCE = 45;
    private static final int[] ODD_NUMBERS = {-1, 8, 17, 18, 19, 21, 64, Integer.MIN_VALUE, Integer.MAX_VALUE};
    private static final String CHARACTERS = "0123456789abcdefghr+-*/^() .@";

    private final Check check = new Check();
    private final int[] answers = new int[6];
    private long seed = 2026;
    private int run;
    private int calls;
    private EnclosureCalculator real;
    private Model model;

    public static void main(String[] args) {
        ModelTest test = new ModelTest();
        for (int run = 1; run <= RUNS; run++) {
            test.run(run);
        }
        for (int answer = 0; answer < test.answers.length; answer++) {
            test.check.due("the runs meet the answer " + answer + " often", test.answers[answer] > 500, true);
        }
        test.check.end("ModelTest");
    }

    private int below(int bound) {
        seed = seed * 6364136223846793005L + 1442695040888963407L;
        return (int) ((seed >>> 33) % bound);
    }

    private void run(int number) {
        run = number;
        calls = 0;
        real = new EnclosureCalculator();
        model = new Model();
        while (calls < CALLS - MOST_CALLS_AT_ONCE) {
            switch (below(12)) {
                case 0, 1, 2, 3:
                    defineSomething();
                    break;
                case 4, 5, 6, 7:
                    evaluateSomething();
                    break;
                case 8, 9, 10:
                    compareSomething();
                    break;
                default:
                    doSomethingElse();
                    break;
            }
        }
    }

    private void due(String call, long got, long want) {
        calls++;
        check.due("run " + run + ", " + call, got, want);
    }

    private void due(String call, boolean got, boolean want) {
        calls++;
        check.due("run " + run + ", " + call, got, want);
    }

    private void defineSomething() {
        String text = below(8) == 0 ? garbage() : sum(3);
        if (below(12) == 0) {
            int at = below(text.length());
            text = text.substring(0, at) + CHARACTERS.charAt(below(CHARACTERS.length())) + text.substring(at + 1);
        }
        for (int i = 0; i < text.length() && i < 21; i++) {
            int c = text.charAt(i);
            due("type(" + c + ")", real.type(c), model.type(c));
        }
        due("length()", real.length(), model.length());
        int name = below(25) == 0 ? ODD_NUMBERS[below(ODD_NUMBERS.length)] : below(8);
        int want = model.define(name);
        due("define(" + name + ") of " + text, real.define(name), want);
        due("length()", real.length(), model.length());
        while (want < 0 && model.length() > 0) {
            due("erase()", real.erase(), model.erase());
        }
        if (want == EnclosureCalculator.FULL && below(2) == 0) {
            calls++;
            real.clear();
            model.clear();
        }
    }

    private String garbage() {
        StringBuilder text = new StringBuilder();
        for (int i = 1 + below(6); i > 0; i--) {
            text.append(CHARACTERS.charAt(below(CHARACTERS.length())));
        }
        return text.toString();
    }

    private String sum(int depth) {
        String left = term(depth);
        return below(2) == 0 ? left : left + (below(2) == 0 ? "+" : "-") + term(depth);
    }

    private String term(int depth) {
        String left = factor(depth);
        return below(2) == 0 ? left : left + (below(2) == 0 ? "*" : "/") + factor(depth);
    }

    private String factor(int depth) {
        String sign = below(6) == 0 ? "-" : "";
        String power = below(5) == 0 ? "^" + (below(20) == 0 ? below(10) : 2 + below(4)) : "";
        return sign + atom(depth) + power;
    }

    private String atom(int depth) {
        int kind = below(depth > 0 ? 10 : 6);
        if (kind < 2) {
            return Integer.toString(below(below(4) == 0 ? 1000 : 10));
        }
        if (kind < 6) {
            return Character.toString('a' + letter());
        }
        return (kind < 8 ? "r(" : "(") + sum(depth - 1) + ")";
    }

    /** Mostly a letter that was given. */
    private int letter() {
        int name = below(8);
        for (int i = 0; i < 10 && model.parts(name) < 0; i++) {
            name = below(8);
        }
        return name;
    }

    private int name() {
        return below(40) == 0 ? ODD_NUMBERS[below(ODD_NUMBERS.length)] : letter();
    }

    private int precision() {
        return below(40) == 0 ? ODD_NUMBERS[below(ODD_NUMBERS.length)] : below(17);
    }

    private int fuel() {
        return below(40) == 0 ? ODD_NUMBERS[below(ODD_NUMBERS.length)] : below(21);
    }

    private void evaluateSomething() {
        int name = name();
        int p = precision();
        int fuel = fuel();
        int want = model.evaluate(name, p, fuel);
        due("evaluate(" + name + ", " + p + ", " + fuel + ")", real.evaluate(name, p, fuel), want);
        count(want);
        observe();
    }

    private void compareSomething() {
        int x = name();
        int y = below(5) == 0 ? x : name();
        int p = precision();
        int fuel = fuel();
        int want = model.compare(x, y, p, fuel);
        due("compare(" + x + ", " + y + ", " + p + ", " + fuel + ")", real.compare(x, y, p, fuel), want);
        count(want);
        observe();
    }

    private void count(int answer) {
        if (answer >= 0) {
            answers[answer]++;
        }
    }

    private void observe() {
        due("work()", real.work(), model.work());
        due("step()", real.step(), model.step());
        due("low()", real.low(), model.low());
        due("high()", real.high(), model.high());
        int d = below(9) - 1;
        due("decimal(" + d + ")", real.decimal(d), model.decimal(d));
    }

    private void doSomethingElse() {
        int kind = below(20);
        if (kind == 0) {
            calls++;
            real.clear();
            model.clear();
        }
        if (kind < 10) {
            int name = name();
            due("parts(" + name + ")", real.parts(name), model.parts(name));
        } else if (kind < 15) {
            due("erase()", real.erase(), model.erase());
        } else {
            observe();
        }
    }
}
