import java.io.IOException;
import java.nio.file.Files;
import java.nio.file.Path;
import java.util.List;
import java.util.regex.Matcher;
import java.util.regex.Pattern;

/** Those rules of LANGUAGE.md that can be seen in the text of the program. */
final class LanguageTest {
    private static final String[] BARRED = {
        "\\bthrows?\\b", "\\btry\\b", "\\bcatch\\b", "\\bsynchronized\\b", "\\bassert\\b", "->", "::",
        "\\bimport\\b", "\\bpackage\\b", "\\bequals\\b", "\\bhashCode\\b", "\\btoString\\b", "\\bObject\\b",
        "\\bException\\b", "Exact\\b", "\\bThread\\b", "\\brandom\\b", "\\bcurrentTimeMillis\\b", "\\bnanoTime\\b",
        "\\bstatic\\s*\\{", "@SuppressWarnings", "\\bwhile\\s*\\(\\s*true", "for\\s*\\(\\s*;",
    };
    private static final Pattern METHOD = Pattern.compile("^( {4}| {8})(?:[\\w\\[\\]]+ )*(?!if|for|switch|while)(\\w+)\\([^;]*\\) \\{$");

    private LanguageTest() {
    }

    static void run(Path path) throws IOException {
        String code = withoutComments(Files.readString(path));
        for (String barred : BARRED) {
            Check.holds("the program does not have " + barred, !Pattern.compile(barred).matcher(code).find());
        }
        Check.holds("System is used for arraycopy alone", !Pattern.compile("System\\.(?!arraycopy)").matcher(code).find());
        Check.holds("all signs are 1 to 127", code.chars().allMatch(sign -> sign >= 1 && sign <= 127));
        Check.holds("at most twelve classes", countOf("\\b(class|interface|enum)\\s+\\w+", code) <= 12);
        methodsAreShort(code.lines().toList());
    }

    private static String withoutComments(String text) {
        return text.replaceAll("(?s)/\\*.*?\\*/", "").replaceAll("//[^\\n]*", "");
    }

    private static int countOf(String pattern, String code) {
        Matcher matcher = Pattern.compile(pattern).matcher(code);
        int many = 0;
        while (matcher.find()) {
            many++;
        }
        return many;
    }

    private static void methodsAreShort(List<String> lines) {
        int methods = 0;
        for (int i = 0; i < lines.size(); i++) {
            Matcher start = METHOD.matcher(lines.get(i));
            if (!start.find()) {
                continue;
            }
            methods++;
            int end = i;
            while (end < lines.size() && !lines.get(end).equals(start.group(1) + "}")) {
                end++;
            }
            Check.holds("at most 60 lines: " + lines.get(i).trim(), end - i < 60);
            boolean isConstructor = Character.isUpperCase(start.group(2).charAt(0));
            String body = String.join("\n", lines.subList(i, end));
            Check.holds("only constructors make objects: " + lines.get(i).trim(),
                isConstructor || !Pattern.compile("\\bnew\\b").matcher(body).find());
        }
        Check.holds("the methods are found: " + methods, methods > 60);
    }
}
