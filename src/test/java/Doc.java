import java.io.IOException;
import java.io.UncheckedIOException;
import java.nio.file.Files;
import java.nio.file.Path;
import java.util.LinkedHashSet;
import java.util.Set;
import java.util.regex.Matcher;
import java.util.regex.Pattern;

/** The sentences of ../shared/DOC.md: each has a test of its own, and each test its sentence. */
final class Doc {
    private static final Path DOC = Path.of("../shared/DOC.md");
    private static final Pattern HEAD = Pattern.compile("## (Promise \\d+|.*)(:.*)?");
    private static final String SIGNATURE = "^`[^`]*\\)[^`]*`: ";

    // What these tell is told by FaceTests, or is no promise.
    private static final Set<String> UNTESTED = Set.of("The public face", "Not promised");

    private static final Set<String> left = read();

    private Doc() {
    }

    static void whatItIs(String words, Runnable test) {
        sentence("What it is", words, test);
    }

    static void term(String words, Runnable test) {
        sentence("Terms", words, test);
    }

    static void promise(int number, String words, Runnable test) {
        sentence("Promise " + number, words, test);
    }

    static void noneLeft() {
        for (String sentence : left) {
            Check.that("no test for the sentence: " + sentence, false);
        }
    }

    private static void sentence(String section, String words, Runnable test) {
        String name = section + ": " + words;
        Check.that("not in the document, or tested twice: " + name, left.remove(name));
        int before = Check.count();
        Check.about(name);
        test.run();
        Check.about("");
        Check.that("a test that checks nothing: " + name, Check.count() > before);
    }

    private static Set<String> read() {
        Set<String> found = new LinkedHashSet<>();
        String section = "";
        for (String line : lines()) {
            Matcher head = HEAD.matcher(line);
            if (head.matches()) {
                section = head.group(1);
            } else if (!section.isEmpty() && !UNTESTED.contains(section)
                    && !line.startsWith("Ahead of the calls")) {
                addSentences(found, section, line);
            }
        }
        return found;
    }

    private static void addSentences(Set<String> found, String section, String line) {
        String told = line.replaceFirst("^- ", "");
        if (section.startsWith("Promise")) {
            told = told.replaceFirst(SIGNATURE, "");
        }
        for (String sentence : told.split("(?<=\\.) +")) {
            // A single word is a heading.
            if (sentence.contains(" ")) {
                found.add(section + ": " + sentence);
            }
        }
    }

    private static Iterable<String> lines() {
        try {
            return Files.readAllLines(DOC);
        } catch (IOException unreadable) {
            throw new UncheckedIOException(unreadable);
        }
    }
}
