import java.io.IOException;
import java.nio.file.Files;
import java.nio.file.Path;
import java.util.Set;
import java.util.TreeSet;
import java.util.regex.Matcher;
import java.util.regex.Pattern;

/** What of LANGUAGE.md can be seen in the source by its words. */
public final class LanguageTest {
    private static final Path SOURCE = Path.of("src/main/java/EnclosureCalculator.java");
    private static final int METHOD_LINES = 60;
    private static final String[] FORBIDDEN = {
        "\\bpackage\\b", "\\bimport\\b(?! java\\.util\\.(ArrayList|List|Arrays|Iterator);)", "\\bthrow\\b",
        "\\bthrows\\b", "\\btry\\b", "\\bcatch\\b", "\\bsynchronized\\b", "\\bassert\\b", "\\bvolatile\\b",
        "\\bnative\\b", "->", "::", "\\bThread\\b", "\\bSystem\\.(?!arraycopy)", "\\bMath\\.\\w*Exact\\b",
        "\\bMath\\.(random|sqrt|pow|floor\\b|ceil\\b)", "\\bObject\\b", "\\bhashCode\\b", "@", "\\bstatic\\s*\\{",
        "\\b(protected|public)\\s+static\\s+(?!final)", "\\bdouble\\b", "\\bfloat\\b", "while \\(true\\)", "for \\(;;"
    };

    public static void main(String[] args) throws IOException {
        Check check = new Check();
        String source = Files.readString(SOURCE);
        check.due("characters 0 to 127 alone", source.chars().allMatch(c -> c < 128), true);
        String code = source.replaceAll("(?s)/\\*.*?\\*/", "").replaceAll("//[^\n]*", "");
        for (String pattern : FORBIDDEN) {
            check.due("the source has " + pattern, Pattern.compile(pattern).matcher(code).find(), false);
        }
        staticFieldsAreFinal(check, code);
        methodsAreShort(check, source);
        check.end("LanguageTest");
    }

    private static void staticFieldsAreFinal(Check check, String code) {
        Matcher field = Pattern.compile("\\bstatic\\s+([^({;=]*)(=|;)").matcher(code);
        while (field.find()) {
            check.due("final: " + field.group(1), field.group(1).startsWith("final "), true);
        }
    }

    private static void methodsAreShort(Check check, String source) {
        Set<String> tooLong = new TreeSet<>();
        Matcher method = Pattern.compile("(?m)^( +)(?!private static final class)(\\w[^;=]*\\)) \\{$").matcher(source);
        while (method.find()) {
            int end = source.indexOf("\n" + method.group(1) + "}", method.end());
            long lines = source.substring(method.start(), end).lines().count();
            if (lines > METHOD_LINES) {
                tooLong.add(method.group(2));
            }
        }
        check.due("methods that are too long: " + tooLong, tooLong.isEmpty(), true);
    }
}
