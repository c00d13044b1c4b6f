import java.io.IOException;
import java.lang.reflect.Constructor;
import java.lang.reflect.Executable;
import java.lang.reflect.Field;
import java.lang.reflect.Method;
import java.lang.reflect.Modifier;
import java.nio.file.Files;
import java.nio.file.Path;
import java.util.ArrayList;
import java.util.Collections;
import java.util.HashSet;
import java.util.List;
import java.util.Set;
import java.util.regex.MatchResult;
import java.util.regex.Pattern;

/** The public face: just the document's members, with their throws clauses. */
public final class FaceTests {
    private static final Path DOC = Path.of("../shared/DOC.md");
    private static final Path PROGRAM = Path.of("src/main/java/CoinbookSorter.java");
    private static final Pattern SECTION = Pattern.compile(
            "(?m)^Ahead of the calls (.*) the interface says: (---- .*)\\.$");
    private static final String BOUNDS = " IndexOutOfBoundsException";
    private static final String ARGUMENT = " IllegalArgumentException";
    private static final String STATE = " IllegalStateException";

    private static final String[] FACE = {
        "type(char)" + ARGUMENT + STATE, "clearText()", "words()", "addStops()" + STATE,
        "removeStops()", "addRule(int,int,int)" + BOUNDS + ARGUMENT + STATE,
        "removeRule(int)" + BOUNDS, "addLine(int,int)" + ARGUMENT + STATE,
        "correct(int,int)" + BOUNDS + ARGUMENT, "lines()", "categoryOf(int)" + BOUNDS,
        "reasonOf(int)" + BOUNDS, "ruleFor(int)" + BOUNDS, "weight(int,int)" + BOUNDS + STATE,
        "rankedAt(int,int)" + BOUNDS, "linesIn(int)" + BOUNDS, "sumOf(int)" + BOUNDS,
        "taught(int)" + BOUNDS + STATE, "taughtCountedAnew(int)" + BOUNDS + STATE,
        "wordsTaught()", "steps(int)" + ARGUMENT, "setSlack(int)" + ARGUMENT,
        "alike(int)" + BOUNDS, "period(int)" + BOUNDS, "nextDue(int)" + BOUNDS};

    public static void main(String[] args) throws IOException {
        asTheDocumentShows();
        sections();
        methods();
        constructor();
        constants();
        privateNames();
        Check.close("FaceTests");
    }

    private static void asTheDocumentShows() throws IOException {
        String block = Files.readString(DOC).split("```java\n")[1].split("```")[0];
        List<String> due = new ArrayList<>();
        due.add("public final class CoinbookSorter {");
        due.add("    public static final int NONE = -1;");
        due.add("    public static final int NO_REASON = 0, CORRECTED = 1, RULE = 2, WEIGHTS = 3;");
        due.add("    public CoinbookSorter();");
        List<String> shown = new ArrayList<>(block.lines().toList());
        Check.equal("what the face begins with", shown.subList(0, 4), due);
        Check.equal("what it ends with", shown.get(shown.size() - 1), "}");
        List<String> methods = new ArrayList<>();
        for (String line : shown.subList(4, shown.size() - 1)) {
            methods.add(line.replaceFirst("^    public int ", "").replaceFirst(";$", "")
                    .replaceAll("(char|int) \\w+", "$1").replace(" throws", "").replace(", ", ",")
                    .replaceAll(",(?=I\\w+Exception)", " "));
        }
        Check.equal("the methods that the document shows", methods, List.of(FACE));
    }

    /** The document's headings stand in the program ahead of the calls that it names. */
    private static void sections() throws IOException {
        String program = Files.readString(PROGRAM);
        List<String> all = new ArrayList<>();
        for (MatchResult section : SECTION.matcher(Files.readString(DOC)).results().toList()) {
            String heading = "    // " + section.group(2) + "\n";
            int start = program.indexOf(heading);
            Check.that("stands in the program: " + heading, start >= 0);
            int end = program.indexOf("    // ---- ", start + heading.length());
            List<String> calls = new ArrayList<>();
            for (MatchResult call : Pattern.compile("(?m)^    public int (\\w+)\\(")
                    .matcher(program.substring(start, end)).results().toList()) {
                calls.add("`" + call.group(1) + "`");
            }
            Check.equal("the calls behind" + heading, String.join(", ", calls), section.group(1));
            all.addAll(calls);
        }
        Check.equal("the calls behind headings", all.size(), FACE.length);
    }

    private static void methods() {
        List<String> got = new ArrayList<>();
        for (Method method : CoinbookSorter.class.getDeclaredMethods()) {
            if (!Modifier.isPrivate(method.getModifiers())) {
                Check.that("plainly public: " + method,
                        method.getModifiers() == Modifier.PUBLIC
                                && method.getReturnType() == int.class);
                got.add(method.getName() + parameters(method) + exceptions(method));
            }
        }
        List<String> due = new ArrayList<>(List.of(FACE));
        Collections.sort(got);
        Collections.sort(due);
        Check.equal("the methods", got, due);
    }

    private static void constructor() {
        Constructor<?>[] all = CoinbookSorter.class.getDeclaredConstructors();
        Check.equal("constructors", all.length, 1);
        Check.equal("without parameters", parameters(all[0]), "()");
        Check.equal("public", all[0].getModifiers(), Modifier.PUBLIC);
        Check.equal("the class", CoinbookSorter.class.getModifiers(),
                Modifier.PUBLIC | Modifier.FINAL);
    }

    private static void constants() {
        List<String> got = new ArrayList<>();
        for (Field field : CoinbookSorter.class.getDeclaredFields()) {
            if (!Modifier.isPrivate(field.getModifiers())) {
                got.add(field.getName());
            }
        }
        Collections.sort(got);
        Check.equal("the constants", got,
                List.of("CORRECTED", "NONE", "NO_REASON", "RULE", "WEIGHTS"));
        Check.equal("NONE", CoinbookSorter.NONE, -1);
        Check.equal("NO_REASON", CoinbookSorter.NO_REASON, 0);
        Check.equal("CORRECTED", CoinbookSorter.CORRECTED, 1);
        Check.equal("RULE", CoinbookSorter.RULE, 2);
        Check.equal("WEIGHTS", CoinbookSorter.WEIGHTS, 3);
    }

    private static void privateNames() {
        Set<String> face = new HashSet<>();
        for (String method : FACE) {
            face.add(method.substring(0, method.indexOf('(')));
        }
        List<Class<?>> all = new ArrayList<>(List.of(CoinbookSorter.class.getDeclaredClasses()));
        all.add(CoinbookSorter.class);
        for (Class<?> each : all) {
            for (Method method : each.getDeclaredMethods()) {
                boolean ofTheFace = each == CoinbookSorter.class
                        && Modifier.isPublic(method.getModifiers());
                Check.that("a name of the face inside: " + method,
                        ofTheFace || !face.contains(method.getName()));
            }
        }
    }

    private static String parameters(Executable of) {
        List<String> names = new ArrayList<>();
        for (Class<?> each : of.getParameterTypes()) {
            names.add(each.getSimpleName());
        }
        return "(" + String.join(",", names) + ")";
    }

    private static String exceptions(Executable of) {
        StringBuilder names = new StringBuilder();
        for (Class<?> each : of.getExceptionTypes()) {
            names.append(' ').append(each.getSimpleName());
        }
        return names.toString();
    }
}
