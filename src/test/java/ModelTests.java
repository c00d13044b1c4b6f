import java.util.HashMap;
import java.util.Map;

/** Long runs of calls, each answer set against the model's; every run is the same every time. */
public final class ModelTests {
    private static final int RUNS = 1500;
    private static final int CALLS = 512;
    private static final String[] WORDS = {"a", "b", "c", "d", "ab", "ba", "abc", "aa"};
    private static final int[] DAYS = {0, 7, 14, 21, 30, 60, 91, 121, 152, 9999};

    private static final Map<String, Integer> atLimit = new HashMap<>();

    private final CoinbookSorter program = new CoinbookSorter();
    private final Model model = new Model();
    private final int run;
    private int state;
    private int calls;
    private boolean wrong;

    private ModelTests(int run) {
        this.run = run;
        state = run * 7919 + 1;
    }

    public static void main(String[] args) {
        int wrongRuns = 0;
        for (int run = 0; run < RUNS && wrongRuns < 5; run++) {
            ModelTests test = new ModelTests(run);
            test.play();
            Check.that("run " + run, !test.wrong);
            wrongRuns += test.wrong ? 1 : 0;
        }
        for (String call : new String[] {"type", "addStops", "addRule", "addLine", "60 lines"}) {
            Check.that("the runs come to a limit of " + call,
                    atLimit.getOrDefault(call, 0) >= 20);
        }
        Check.close("ModelTests");
    }

    private void play() {
        while (calls < CALLS && !wrong) {
            step();
        }
        if (model.lines() == 60) {
            atLimit.merge("60 lines", 1, Integer::sum);
        }
    }

    private void step() {
        int kind = below(20);
        if (filling() && kind < 6) {
            typeWords(below(3) == 0 ? 10 + below(10) : 0);
            changeStopsOrRules();
        } else if (kind < 7) {
            typeWords(1 + below(run % 4 + 1));
            // Some runs use a text again and again, so that they come to 60 lines.
            for (int left = run % 3 == 0 ? 1 + below(7) : 1; left > 0; left--) {
                addLine();
            }
        } else if (kind < 9) {
            typeWords(below(3));
            changeStopsOrRules();
        } else if (kind < 12) {
            int line = line();
            int category = below(10) == 0 ? odd() : below(run % 8 + 2) - 1;
            compare("correct", () -> program.correct(line, category),
                    () -> model.correct(line, category));
        } else if (kind < 13) {
            typeOdd();
        } else if (kind < 17) {
            askLine();
        } else {
            askElse();
        }
    }

    private void typeWords(int count) {
        compare("clearText", program::clearText, model::clearText);
        for (int i = 0; i < count; i++) {
            String word = filling() ? anyWord() : WORDS[below(WORDS.length)];
            for (int k = 0; k < word.length(); k++) {
                type(word.charAt(k));
            }
            if (i + 1 < count || below(4) == 0) {
                type(' ');
            }
        }
    }

    private String anyWord() {
        String letter = "" + (char) ('a' + below(26));
        return below(3) == 0 ? letter + letter : letter;
    }

    /** Runs that come to 30 stop words and to 12 rules. */
    private boolean filling() {
        return run % 5 == 0;
    }

    private void typeOdd() {
        type(below(3) == 0 ? (char) odd() : (char) (' ' + below(100)));
        type((char) ('a' + below(26)));
    }

    private void type(char character) {
        compare("type " + (int) character, () -> program.type(character),
                () -> model.type(character));
    }

    private void addLine() {
        int day = below(20) == 0 ? odd() : below(3) == 0 ? below(400) : DAYS[below(DAYS.length)];
        int amount = below(20) == 0 ? odd() : below(21) - 15;
        compare("addLine", () -> program.addLine(day, amount), () -> model.addLine(day, amount));
    }

    private void changeStopsOrRules() {
        // In a run that fills, few are removed.
        boolean adds = filling() && below(4) > 0;
        switch (adds ? 3 * below(2) : below(5)) {
            case 0:
                compare("addStops", program::addStops, model::addStops);
                break;
            case 1:
                compare("removeStops", program::removeStops, model::removeStops);
                break;
            case 2:
                int gone = below(8) == 0 ? odd() : below(4);
                compare("removeRule", () -> program.removeRule(gone),
                        () -> model.removeRule(gone));
                break;
            default:
                int category = below(10) == 0 ? odd() : below(8);
                int lowest = below(10) == 0 ? odd() : below(30) - 20;
                int highest = below(10) == 0 ? odd() : lowest + below(10) - 1;
                compare("addRule", () -> program.addRule(category, lowest, highest),
                        () -> model.addRule(category, lowest, highest));
        }
    }

    private void askLine() {
        int line = line();
        int other = below(10) == 0 ? odd() : below(9);
        compare("categoryOf", () -> program.categoryOf(line), () -> model.categoryOf(line));
        compare("reasonOf", () -> program.reasonOf(line), () -> model.reasonOf(line));
        compare("ruleFor", () -> program.ruleFor(line), () -> model.ruleFor(line));
        compare("weight", () -> program.weight(line, other), () -> model.weight(line, other));
        compare("rankedAt", () -> program.rankedAt(line, other),
                () -> model.rankedAt(line, other));
        compare("alike", () -> program.alike(line), () -> model.alike(line));
        compare("period", () -> program.period(line), () -> model.period(line));
        compare("nextDue", () -> program.nextDue(line), () -> model.nextDue(line));
    }

    private void askElse() {
        int category = below(10) == 0 ? odd() : below(8);
        int number = below(5) == 0 ? odd() : below(1000001);
        int days = below(5) == 0 ? odd() : below(6);
        compare("linesIn", () -> program.linesIn(category), () -> model.linesIn(category));
        compare("sumOf", () -> program.sumOf(category), () -> model.sumOf(category));
        compare("taught", () -> program.taught(category), () -> model.taught(category));
        compare("taughtCountedAnew", () -> program.taughtCountedAnew(category),
                () -> model.taughtCountedAnew(category));
        compare("wordsTaught", program::wordsTaught, model::wordsTaught);
        compare("steps", () -> program.steps(number), () -> model.steps(number));
        compare("setSlack", () -> program.setSlack(days), () -> model.setSlack(days));
        compare("words", program::words, model::words);
        compare("lines", program::lines, model::lines);
    }

    private void compare(String call, Check.Call asked, Check.Call due) {
        if (wrong || calls >= CALLS) {
            return;
        }
        calls++;
        String got = Check.outcome(asked);
        String want = Check.outcome(due);
        if (want.equals("throws.IllegalStateException")) {
            atLimit.merge(call.substring(0, (call + " ").indexOf(' ')), 1, Integer::sum);
        }
        if (!got.equals(want)) {
            wrong = true;
            System.out.println("run " + run + ", call " + calls + ": " + call + " answered "
                    + got + ", due is " + want);
        }
    }

    private int line() {
        return below(15) == 0 ? odd() : below(Math.max(1, model.lines()));
    }

    private int odd() {
        int[] values = {-1, -2, 8, 9, 12, 60, 61, 10000, -99999, -100000, 99999, 100000,
            1000001, Integer.MIN_VALUE, Integer.MAX_VALUE, 0};
        return values[below(values.length)];
    }

    private int below(int bound) {
        state = state * 1103515245 + 12345;
        return ((state >>> 8) & 0xffffff) % bound;
    }
}
