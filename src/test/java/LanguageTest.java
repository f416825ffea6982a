import java.io.IOException;
import java.nio.file.Files;
import java.nio.file.Path;
import java.util.List;
import java.util.Set;
import java.util.TreeSet;
import java.util.regex.Matcher;
import java.util.regex.Pattern;

/** Those rules of LANGUAGE.md that can be seen in the text of the program. */
final class LanguageTest {
    private static final String[] BARRED = {
        "\\bthrows?\\b", "\\btry\\b", "\\bcatch\\b", "\\bsynchronized\\b", "\\bassert\\b", "->", "::",
        "\\bimport\\b", "\\bpackage\\b", "\\bequals\\b", "\\bhashCode\\b", "\\btoString\\b", "\\bObject\\b",
        "\\bException\\b", "Exact\\b", "\\bThread\\b", "\\brandom\\b", "\\bcurrentTimeMillis\\b", "\\bnanoTime\\b",
        "\\bstatic\\s*\\{", "@SuppressWarnings", "\\bwhile\\s*\\(\\s*true", "for\\s*\\(\\s*;",
    };
    /** What the program takes of the library; all of it stands in rule 4, but not all of rule 4 stands here. */
    private static final Set<String> LIBRARY = Set.of("Math.max", "Math.min", "System.arraycopy");
    private static final Pattern METHOD = Pattern.compile("^( {4}| {8})(?:[\\w\\[\\]]+ )*(?!if|for|switch|while)(\\w+)\\([^;]*\\) \\{$");

    private LanguageTest() {
    }

    static void run(Path path) throws IOException {
        String code = withoutComments(Files.readString(path));
        for (String barred : BARRED) {
            Check.holds("the program does not have " + barred, !Pattern.compile(barred).matcher(code).find());
        }
        libraryIsThatOfTheRules(code);
        Check.holds("all signs are 1 to 127", code.chars().allMatch(sign -> sign >= 1 && sign <= 127));
        Check.holds("at most twelve classes", countOf("\\b(class|interface|enum)\\s+\\w+", code) <= 12);
        methodsAreShort(code.lines().toList());
    }

    private static String withoutComments(String text) {
        return text.replaceAll("(?s)/\\*.*?\\*/", "").replaceAll("//[^\\n]*", "");
    }

    /** A name that begins like a class's is that of a class in the file, or of the library with what is taken of it. */
    private static void libraryIsThatOfTheRules(String code) {
        Set<String> known = new TreeSet<>();
        Matcher own = Pattern.compile("\\bclass (\\w+)").matcher(code);
        while (own.find()) {
            known.add(own.group(1));
        }
        Matcher name = Pattern.compile("\\b([A-Z]\\w*[a-z]\\w*)(\\.\\w+)?").matcher(code);
        while (name.find()) {
            Check.holds("rule 4 has " + name.group(), known.contains(name.group(1)) || LIBRARY.contains(name.group()));
        }
    }

    private static int countOf(String pattern, String code) {
        Matcher matcher = Pattern.compile(pattern).matcher(code);
        int many = 0;
        while (matcher.find()) {
            many++;
        }
        return many;
    }

    private static void methodsAreShort(List<String> lines) {
        int methods = 0;
        for (int i = 0; i < lines.size(); i++) {
            Matcher start = METHOD.matcher(lines.get(i));
            if (!start.find()) {
                continue;
            }
            methods++;
            int end = i;
            while (end < lines.size() && !lines.get(end).equals(start.group(1) + "}")) {
                end++;
            }
            Check.holds("at most 60 lines: " + lines.get(i).trim(), end - i < 60);
            boolean isConstructor = Character.isUpperCase(start.group(2).charAt(0));
            String body = String.join("\n", lines.subList(i, end));
            Check.holds("only constructors make objects: " + lines.get(i).trim(),
                isConstructor || !Pattern.compile("\\bnew\\b").matcher(body).find());
        }
        Check.holds("the methods are found: " + methods, methods > 60);
    }
}
