import java.util.ArrayList;
import java.util.List;

/** A state that new sorters are brought into, and all that can be asked there. */
final class State {
    /** A call of a sorter. */
    interface Ask {
        int of(CoinbookSorter sorter);
    }

    /** The calls that lead into a state. */
    interface Way {
        void lead(CoinbookSorter sorter);
    }

    private record Question(String name, Ask ask) {
        String answer(CoinbookSorter sorter) {
            return Check.outcome(() -> ask.of(sorter));
        }
    }

    private static final int MOST_CALLS = 512;
    private static final String TWENTY_WORDS = "a b c d e f g h i j k l m n o p q r s t";
    private static final String TEN_WORDS = "u v w x y z aa bb cc dd";
    static final String FORTY_LETTERS = "abcdefghijklmnopqrstuvwxyzabcdefghijklmn";

    static final State NEW = new State("a new object", 0, 0, x -> { });
    static final State FEW = new State("a few lines", 7, 65, State::few);
    static final State TWO_WORDS = new State("a text of two words", 7, 75,
            x -> few(x, "oil gas oil"));
    static final State BLANK = new State("40 spaces", 7, 100, x -> few(x, " ".repeat(40)));
    static final State FULL = new State("all full", 60, 225, State::full);
    static final State[] ALL = {NEW, FEW, TWO_WORDS, BLANK, FULL};

    private final String name;
    private final int lines;
    private final Way way;
    private final int room;
    private List<List<Question>> parts;
    private List<List<String>> answers;

    /** The way takes at most so many calls; so many are left for questions, up to the 512th. */
    State(String name, int lines, int mostCalls, Way way) {
        this.name = name;
        this.lines = lines;
        this.way = way;
        room = MOST_CALLS - mostCalls - 1;
    }

    int lines() {
        return lines;
    }

    CoinbookSorter make() {
        CoinbookSorter sorter = new CoinbookSorter();
        way.lead(sorter);
        return sorter;
    }

    /** The call throws just this, and each question answers behind it as it does without it. */
    void refuses(String what, Class<? extends RuntimeException> want, Ask call) {
        leaves(what, "throws." + want.getSimpleName(), call);
    }

    /** The call answers this, and each question answers behind it as it does without it. */
    void keeps(String what, int want, Ask call) {
        leaves(what, Integer.toString(want), call);
    }

    private void leaves(String what, String want, Ask call) {
        prepare();
        for (int part = 0; part < parts.size(); part++) {
            CoinbookSorter sorter = make();
            Check.equal(name + ": " + what, Check.outcome(() -> call.of(sorter)), want);
            List<Question> questions = parts.get(part);
            List<String> got = answersOf(questions, sorter);
            for (int i = 0; i < got.size(); i++) {
                String due = answers.get(part).get(i);
                if (!got.get(i).equals(due)) {
                    Check.equal(name + ": behind " + what + ": " + questions.get(i).name(),
                            got.get(i), due);
                    return;
                }
            }
        }
    }

    private void prepare() {
        if (answers == null) {
            parts = new ArrayList<>();
            List<Question> all = questions();
            for (int from = 0; from < all.size(); from += room) {
                parts.add(all.subList(from, Math.min(all.size(), from + room)));
            }
            parts.add(changingCalls());
            answers = new ArrayList<>();
            for (List<Question> part : parts) {
                Check.that(name + ": an object has 512 calls", part.size() <= room);
                answers.add(answersOf(part, make()));
            }
        }
    }

    private static List<String> answersOf(List<Question> questions, CoinbookSorter sorter) {
        List<String> found = new ArrayList<>();
        for (Question question : questions) {
            found.add(question.answer(sorter));
        }
        return found;
    }

    private List<Question> questions() {
        List<Question> all = new ArrayList<>();
        all.add(new Question("words", CoinbookSorter::words));
        all.add(new Question("lines", CoinbookSorter::lines));
        all.add(new Question("wordsTaught", CoinbookSorter::wordsTaught));
        for (int each = 0; each < 8; each++) {
            int category = each;
            all.add(new Question("linesIn " + each, x -> x.linesIn(category)));
            all.add(new Question("sumOf " + each, x -> x.sumOf(category)));
            all.add(new Question("taught " + each, x -> x.taught(category)));
            all.add(new Question("taughtCountedAnew " + each, x -> x.taughtCountedAnew(category)));
        }
        for (int line = 0; line < lines; line++) {
            addQuestionsOf(line, all);
        }
        return all;
    }

    private static void addQuestionsOf(int line, List<Question> all) {
        all.add(new Question("categoryOf " + line, x -> x.categoryOf(line)));
        all.add(new Question("reasonOf " + line, x -> x.reasonOf(line)));
        all.add(new Question("ruleFor " + line, x -> x.ruleFor(line)));
        all.add(new Question("alike " + line, x -> x.alike(line)));
        all.add(new Question("period " + line, x -> x.period(line)));
        all.add(new Question("nextDue " + line, x -> x.nextDue(line)));
        for (int each = 0; each < 8; each++) {
            int number = each;
            all.add(new Question("weight " + line + " " + each, x -> x.weight(line, number)));
            all.add(new Question("rankedAt " + line + " " + each, x -> x.rankedAt(line, number)));
        }
    }

    /** What no question tells alone, told by calls that change it, in this order. */
    private List<Question> changingCalls() {
        List<Question> all = new ArrayList<>();
        all.add(new Question("a line more", x -> x.addLine(200, -5)));
        all.add(new Question("its kind", x -> x.alike(x.lines() - 1)));
        all.add(new Question("the text's length", CoinbookSorter::clearText));
        all.add(new Question("the slack", x -> x.setSlack(0)));
        for (int i = 0; i < 13; i++) {
            all.add(new Question("rule " + i, x -> x.removeRule(0)));
        }
        all.add(new Question("the rules left", x -> x.addRule(0, 0, 0)));
        for (int each = 0; each < lines; each++) {
            int line = each;
            all.add(new Question("correction " + line,
                    x -> x.correct(line, CoinbookSorter.NONE)));
        }
        for (String words : new String[] {TWENTY_WORDS, TEN_WORDS, "of to gas oil"}) {
            for (char letter : words.toCharArray()) {
                all.add(new Question("type", x -> x.type(letter)));
            }
            all.add(new Question("the stop words of " + words, CoinbookSorter::removeStops));
            all.add(new Question("clearText", CoinbookSorter::clearText));
        }
        return all;
    }

    private static void few(CoinbookSorter x) {
        few(x, "gas");
    }

    private static void few(CoinbookSorter x, String text) {
        Typing.stops(x, "of to");
        Typing.line(x, "gas bill", 0, -5);
        Typing.line(x, "gas car", 30, -6);
        Typing.lines(x, "gas of", -7, 61, 1, 31);
        Typing.line(x, "of", 61, 8);
        x.correct(0, 3);
        x.correct(5, 0);
        Typing.rule(x, "car", 5, -99999, 0);
        Typing.rule(x, "", 6, 8, 9);
        x.setSlack(1);
        Typing.line(x, "gas", 90, -99999);
        Typing.text(x, text);
    }

    private static void full(CoinbookSorter x) {
        Typing.stops(x, TWENTY_WORDS);
        Typing.stops(x, TEN_WORDS);
        Typing.text(x, "gas bill");
        for (int i = 0; i < 20; i++) {
            x.addLine(9999 - 30 * i, i % 5 == 4 ? 99999 : -99999);
        }
        Typing.text(x, "oil a");
        for (int i = 0; i < 19; i++) {
            x.addLine(7 * i, i + 1);
        }
        Typing.text(x, "a");
        for (int i = 0; i < 19; i++) {
            x.addLine(50 * i, -i - 1);
        }
        for (int i = 0; i < 12; i++) {
            if (i % 6 == 0) {
                Typing.text(x, i == 0 ? "oil" : "");
            }
            x.addRule(i % 8, 1 - i, 1 + i);
        }
        for (int i = 0; i < 15; i++) {
            x.correct(i * 4 - i % 3, i % 8);
        }
        Typing.text(x, FORTY_LETTERS);
        x.addLine(0, 1);
        x.addLine(9999, -1);
        x.correct(58, 3);
    }
}
