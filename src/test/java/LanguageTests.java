import java.io.IOException;
import java.nio.file.Files;
import java.nio.file.Path;
import java.util.List;
import java.util.regex.Matcher;
import java.util.regex.Pattern;

/** Rules of LANGUAGE.md that the program's own text can tell; run from the project's folder. */
public final class LanguageTests {
    private static final Path PROGRAM = Path.of("src/main/java/CoinbookSorter.java");

    /** What the rules forbid, or what the program does without so that no rule is touched. */
    private static final String[] ABSENT = {"->", "::", "\\btry\\b", "\\bcatch\\b",
        "\\bfinally\\b", "\\bsynchronized\\b", "\\bassert\\b", "\\binstanceof\\b", "\\bpackage\\b",
        "\\bprotected\\b", "\\bdouble\\b", "\\bfloat\\b", "\\bnative\\b", "Exact\\(", "\\bSystem\\b",
        "\\bObject\\b", "\\bThread\\b", "\\.toArray\\(", "\\bhashCode\\b", "static\\s*\\{",
        "String\\s*\\[", "\\bfor\\s*\\([^;)]*:", " / ", " % ", "@"};

    public static void main(String[] args) throws IOException {
        String whole = Files.readString(PROGRAM);
        String bare = whole.replaceAll("(?s)/\\*.*?\\*/", "").replaceAll("//[^\n]*", "")
                .replaceAll("\"[^\"\n]*\"", "\"\"");
        absent(bare);
        imports(bare);
        staticFields(bare);
        thrown(bare);
        methods(bare);
        Check.that("characters 1 to 126", whole.chars().allMatch(c -> c > 0 && c < 127));
        Check.close("LanguageTests");
    }

    private static void absent(String bare) {
        for (String pattern : ABSENT) {
            Check.that("stands in the program: " + pattern,
                    !Pattern.compile(pattern).matcher(bare).find());
        }
    }

    private static void imports(String bare) {
        Matcher found = Pattern.compile("(?m)^import ([\\w.*]+);").matcher(bare);
        while (found.find()) {
            Check.that("rule 4: import " + found.group(1),
                    List.of("java.util.ArrayList", "java.util.Arrays").contains(found.group(1)));
        }
    }

    private static void staticFields(String bare) {
        for (String line : bare.split("\n")) {
            if (line.contains(" static ") && line.endsWith(";")) {
                Check.that("rule 5: " + line.trim(), line.contains(" static final int "));
            }
        }
    }

    private static void thrown(String bare) {
        Matcher found = Pattern.compile("\\bthrow\\b([^;]*);").matcher(bare);
        while (found.find()) {
            Check.that("rule 6: throw" + found.group(1), found.group(1).matches(
                    " new (IllegalState|IllegalArgument|IndexOutOfBounds)Exception\\(\"\"\\)"));
        }
    }

    private static void methods(String bare) {
        Matcher found = Pattern.compile("(?m)^( {4}| {8})(?=\\S)[\\w<> \\[\\]]*\\w\\(([^)]*)\\)[^;{]*\\{$")
                .matcher(bare);
        int count = 0;
        while (found.find()) {
            count++;
            int end = bare.indexOf("\n" + found.group(1) + "}", found.end());
            String head = found.group().trim();
            Check.that("rule 11: too long: " + head, end > 0
                    && bare.substring(found.end(), end).lines().count() <= 60);
            Check.that("rule 11: too many parameters: " + head,
                    found.group(2).split(",").length <= 7);
        }
        Check.that("the methods were found", count > 50);
    }
}
