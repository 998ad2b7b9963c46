/** What the tests share: a count of wrong answers, and texts typed in one go. */
final class Check {
    private int checked;
    private int wrong;

    void due(String call, long got, long want) {
        checked++;
        if (got != want) {
            wrong++;
            System.out.println(call + " answered " + got + ", due is " + want);
        }
    }

    void due(String call, boolean got, boolean want) {
        due(call, got ? 1 : 0, want ? 1 : 0);
    }

    /** Step, low and high of the result; step -1 stands for no result. */
    void result(String where, EnclosureCalculator x, int step, long low, long high) {
        due(where + ": step()", x.step(), step);
        due(where + ": low()", x.low(), low);
        due(where + ": high()", x.high(), high);
    }

    /** Ends the test: with exit code 1 if an answer was wrong. */
    void end(String test) {
        System.out.println(test + ": " + checked + " checked, " + wrong + " wrong");
        if (wrong != 0) {
            System.exit(1);
        }
    }

    static void typeText(EnclosureCalculator x, String text) {
        for (int i = 0; i < text.length(); i++) {
            x.type(text.charAt(i));
        }
    }

    static void eraseText(EnclosureCalculator x) {
        for (int i = x.length(); i > 0; i--) {
            x.erase();
        }
    }

    static int define(EnclosureCalculator x, int name, String text) {
        typeText(x, text);
        return x.define(name);
    }

    /** A new object with the texts under the names 0, 1, 2 and so on. */
    static EnclosureCalculator with(String... texts) {
        EnclosureCalculator x = new EnclosureCalculator();
        for (int name = 0; name < texts.length; name++) {
            if (define(x, name, texts[name]) < 0) {
                throw new IllegalArgumentException("the test itself is wrong: " + texts[name]);
            }
        }
        return x;
    }
}
