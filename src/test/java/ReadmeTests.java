import java.io.IOException;
import java.lang.reflect.Method;
import java.lang.reflect.Modifier;
import java.nio.charset.StandardCharsets;
import java.nio.file.Files;
import java.nio.file.Path;
import java.util.ArrayList;
import java.util.Collections;
import java.util.List;
import java.util.regex.MatchResult;
import java.util.regex.Matcher;
import java.util.regex.Pattern;

/** What README.md says of how to use the class and how to run its tests; run from the project. */
public final class ReadmeTests {
    private static final Path EXAMPLE = Path.of("src/example/java/Example.java");
    private static final String RUN_EXAMPLE = "java -cp build/example Example";
    private static final String ALL_TESTS = ".ci/run";
    private static final Pattern ANSWER = Pattern.compile("println\\(.*\\);\\s*(// (-?\\d+)\\b.*)?");
    private static final Pattern ROW = Pattern.compile(
            "(?m)^\\| `(new )?(\\w+)\\(([^)]*)\\)` \\| (.+) \\| (.*)\\|$");
    private static final Pattern EXCEPTION = Pattern.compile("`(\\w+Exception)`: ");

    private static String page;

    private ReadmeTests() {
    }

    public static void main(String[] args) throws IOException, InterruptedException {
        page = Files.readString(Path.of("README.md"));
        example();
        commands();
        calls();
        Check.close("ReadmeTests");
    }

    private static void example() throws IOException {
        List<String> blocks = blocks("java");
        Check.equal("examples", blocks.size(), 1);
        Check.equal("the example", blocks.get(0), Files.readString(EXAMPLE));
        for (Method method : CoinbookSorter.class.getDeclaredMethods()) {
            if (isOfTheFace(method)) {
                Check.that("the example has no " + method.getName(),
                        blocks.get(0).contains("sorter." + method.getName() + "("));
            }
        }
    }

    private static void commands() throws IOException, InterruptedException {
        List<String> commands = new ArrayList<>();
        for (String block : blocks("sh")) {
            commands.addAll(block.lines().toList());
        }
        Check.that("how to run all tests", commands.contains(ALL_TESTS));
        Check.that("how to run the example", commands.contains(RUN_EXAMPLE));
        for (String command : commands) {
            if (command.equals(ALL_TESTS)) {
                // This class is a part of that run, which would start itself without an end.
                Check.that("can be run: " + command, Files.isExecutable(Path.of(ALL_TESTS)));
                continue;
            }
            String told = outputOf(command);
            if (command.equals(RUN_EXAMPLE)) {
                Check.equal("the example's answers", told.lines().toList(), answers());
            }
        }
    }

    private static String outputOf(String command) throws IOException, InterruptedException {
        Process process = new ProcessBuilder("sh", "-c", command).redirectErrorStream(true).start();
        process.getOutputStream().close();
        String told = new String(process.getInputStream().readAllBytes(), StandardCharsets.UTF_8);
        int code = process.waitFor();
        Check.that(command + " ended with " + code + ": " + told, code == 0);
        return told;
    }

    private static List<String> answers() {
        List<String> due = new ArrayList<>();
        Matcher found = ANSWER.matcher(blocks("java").get(0));
        while (found.find()) {
            Check.that("an answer is told: " + found.group(), found.group(2) != null);
            due.add(String.valueOf(found.group(2)));
        }
        return due;
    }

    private static void calls() {
        List<String> due = new ArrayList<>();
        for (Method method : CoinbookSorter.class.getDeclaredMethods()) {
            if (isOfTheFace(method)) {
                due.add(method.getName() + names(method.getParameterTypes())
                        + names(method.getExceptionTypes()));
            }
        }
        due.add("CoinbookSorter[][]");
        List<String> told = new ArrayList<>();
        for (MatchResult row : ROW.matcher(page).results().toList()) {
            told.add(row.group(2) + types(row.group(3)) + exceptions(row.group(5)));
        }
        Collections.sort(due);
        Collections.sort(told);
        Check.equal("the table of calls", told, due);
    }

    private static boolean isOfTheFace(Method method) {
        return Modifier.isPublic(method.getModifiers());
    }

    private static List<String> names(Class<?>[] types) {
        List<String> names = new ArrayList<>();
        for (Class<?> type : types) {
            names.add(type.getSimpleName());
        }
        return names;
    }

    private static List<String> types(String parameters) {
        List<String> types = new ArrayList<>();
        for (String parameter : parameters.isEmpty() ? new String[0] : parameters.split(", ")) {
            types.add(parameter.split(" ")[0]);
        }
        return types;
    }

    private static List<String> exceptions(String column) {
        List<String> names = new ArrayList<>();
        Matcher found = EXCEPTION.matcher(column);
        while (found.find()) {
            names.add(found.group(1));
        }
        return names;
    }

    private static List<String> blocks(String language) {
        List<String> found = new ArrayList<>();
        Matcher block = Pattern.compile("(?ms)^```" + language + "\n(.*?)^```$").matcher(page);
        while (block.find()) {
            found.add(block.group(1));
        }
        return found;
    }
}
