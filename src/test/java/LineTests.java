/** Promises 9 to 13, 17 and 18: lines, corrections, categories and reasons. */
public final class LineTests {
    public static void main(String[] args) {
        addLine();
        addLineRefuses();
        addLineAtTheLimit();
        correct();
        correctRefuses();
        categoriesAndReasons();
        aRuleComesBeforeWeights();
        weightsNeedATaughtWord();
        unknownLines();
        linesInAndSumOf();
        refusedCallsChangeNothing();
        Check.close("LineTests");
    }

    private static void addLine() {
        CoinbookSorter x = new CoinbookSorter();
        Typing.text(x, " gas  bill ");
        Check.equal("9 number 0", x.addLine(0, -99999), 0);
        Check.equal("11 one line", x.lines(), 1);
        Check.equal("9 number 1", x.addLine(9999, 99999), 1);
        Check.equal("9 number 2", x.addLine(5, -1), 2);
        Check.equal("9 number 3", x.addLine(5, 1), 3);
        Check.equal("11 four lines", x.lines(), 4);
        Check.equal("9 a new line is not corrected", x.correct(0, 2), CoinbookSorter.NONE);
    }

    private static void addLineRefuses() {
        CoinbookSorter x = new CoinbookSorter();
        int[][] wrong = {{-1, 1}, {10000, 1}, {0, 0}, {0, 100000}, {0, -100000},
            {Integer.MIN_VALUE, 1}, {Integer.MAX_VALUE, 1}, {0, Integer.MIN_VALUE},
            {0, Integer.MAX_VALUE}};
        for (String text : new String[] {"", "gas"}) {
            Typing.text(x, text);
            for (int[] line : wrong) {
                Check.raises("9 day " + line[0] + " amount " + line[1],
                        IllegalArgumentException.class, () -> x.addLine(line[0], line[1]));
            }
        }
        Typing.text(x, "");
        Check.raises("9 an empty text", IllegalStateException.class, () -> x.addLine(0, 1));
        Typing.text(x, "  ");
        Check.raises("9 spaces alone", IllegalStateException.class, () -> x.addLine(0, 1));
        Check.equal("11 none was added", x.lines(), 0);
        Typing.stops(x, "of");
        Check.equal("9 stop words are words", x.addLine(0, 1), 0);
    }

    private static void addLineAtTheLimit() {
        CoinbookSorter x = new CoinbookSorter();
        Typing.text(x, "gas");
        for (int i = 0; i < 60; i++) {
            Check.equal("9 line " + i, x.addLine(i, 1), i);
        }
        Check.equal("11 60 lines", x.lines(), 60);
        Check.raises("9 the 61st", IllegalStateException.class, () -> x.addLine(0, 1));
        Check.raises("9 the argument first", IllegalArgumentException.class,
                () -> x.addLine(0, 0));
        Check.equal("11 still 60 lines", x.lines(), 60);
        Check.equal("24 all 60 are alike", x.alike(59), 60);
        Check.equal("9 the last can be corrected", x.correct(59, 1), CoinbookSorter.NONE);
        Check.equal("17 all 60 by weights", x.linesIn(1), 60);
    }

    private static void correct() {
        CoinbookSorter x = new CoinbookSorter();
        int gas = Typing.line(x, "gas", 0, 1);
        Check.equal("10 to none before", x.correct(gas, 0), CoinbookSorter.NONE);
        Check.equal("10 to 0 before", x.correct(gas, 7), 0);
        Check.equal("10 to 7 before", x.correct(gas, 7), 7);
        Check.equal("10 it teaches once", x.taught(7), 1);
        Check.equal("10 the old one no more", x.taught(0), 0);
        Check.equal("10 taken back", x.correct(gas, CoinbookSorter.NONE), 7);
        Check.equal("10 none to take back", x.correct(gas, CoinbookSorter.NONE),
                CoinbookSorter.NONE);
        Check.equal("10 it teaches no more", x.taught(7), 0);
        Check.equal("10 no category any more", x.categoryOf(gas), CoinbookSorter.NONE);
    }

    private static void correctRefuses() {
        CoinbookSorter x = new CoinbookSorter();
        int gas = Typing.line(x, "gas", 0, 1);
        x.correct(gas, 4);
        int[] noCategories = {-2, 8, Integer.MIN_VALUE, Integer.MAX_VALUE};
        for (int category : noCategories) {
            Check.raises("10 category " + category, IllegalArgumentException.class,
                    () -> x.correct(gas, category));
            Check.raises("10 the line first", IndexOutOfBoundsException.class,
                    () -> x.correct(1, category));
        }
        int[] noLines = {-1, 1, 60, Integer.MIN_VALUE, Integer.MAX_VALUE};
        for (int line : noLines) {
            Check.raises("10 line " + line, IndexOutOfBoundsException.class,
                    () -> x.correct(line, 0));
        }
        Check.equal("10 still corrected to 4", x.correct(gas, 4), 4);
    }

    private static void categoriesAndReasons() {
        CoinbookSorter x = new CoinbookSorter();
        int first = Typing.line(x, "gas bill", 0, -5);
        int second = Typing.line(x, "gas car", 0, -6);
        expect(x, second, CoinbookSorter.NONE, CoinbookSorter.NO_REASON);
        x.correct(first, 6);
        expect(x, first, 6, CoinbookSorter.CORRECTED);
        expect(x, second, 6, CoinbookSorter.WEIGHTS);
        Typing.rule(x, "gas", 2, -99999, -1);
        expect(x, first, 6, CoinbookSorter.CORRECTED);
        expect(x, second, 2, CoinbookSorter.RULE);
        x.removeRule(0);
        expect(x, second, 6, CoinbookSorter.WEIGHTS);
        x.correct(first, CoinbookSorter.NONE);
        expect(x, first, CoinbookSorter.NONE, CoinbookSorter.NO_REASON);
        expect(x, second, CoinbookSorter.NONE, CoinbookSorter.NO_REASON);
    }

    private static void aRuleComesBeforeWeights() {
        CoinbookSorter x = new CoinbookSorter();
        Typing.taughtLine(x, "gas", 1);
        int line = Typing.line(x, "gas", 0, 1);
        Typing.rule(x, "gas", 0, 1, 1);
        Typing.rule(x, "gas", 7, 1, 1);
        expect(x, line, 0, CoinbookSorter.RULE);
        x.correct(line, 0);
        expect(x, line, 0, CoinbookSorter.CORRECTED);
    }

    private static void weightsNeedATaughtWord() {
        CoinbookSorter x = new CoinbookSorter();
        Typing.taughtLine(x, "gas of", 1);
        int other = Typing.line(x, "oil", 0, 1);
        expect(x, other, CoinbookSorter.NONE, CoinbookSorter.NO_REASON);
        int shared = Typing.line(x, "oil of", 0, 1);
        expect(x, shared, 1, CoinbookSorter.WEIGHTS);
        Typing.stops(x, "of");
        expect(x, shared, CoinbookSorter.NONE, CoinbookSorter.NO_REASON);
        Check.equal("16 a weight without a taught word", x.rankedAt(shared, 0), 1);
        Typing.noStops(x, "of");
        expect(x, shared, 1, CoinbookSorter.WEIGHTS);
    }

    private static void expect(CoinbookSorter x, int line, int category, int reason) {
        Check.equal("12 category of " + line, x.categoryOf(line), category);
        Check.equal("13 reason of " + line, x.reasonOf(line), reason);
    }

    private static void unknownLines() {
        CoinbookSorter x = new CoinbookSorter();
        Typing.line(x, "gas", 0, 1);
        int[] noLines = {-1, 1, 60, Integer.MIN_VALUE, Integer.MAX_VALUE};
        for (int line : noLines) {
            Check.raises("12 line " + line, IndexOutOfBoundsException.class,
                    () -> x.categoryOf(line));
            Check.raises("13 line " + line, IndexOutOfBoundsException.class,
                    () -> x.reasonOf(line));
        }
    }

    private static void linesInAndSumOf() {
        CoinbookSorter x = new CoinbookSorter();
        int corrected = Typing.line(x, "gas", 0, -100);
        x.correct(corrected, 3);
        Typing.line(x, "gas bill", 0, 70);
        Typing.line(x, "oil", 0, 9);
        Typing.rule(x, "oil", 3, 0, 99);
        Typing.line(x, "car", 0, 1000);
        Check.equal("17 by three reasons", x.linesIn(3), 3);
        Check.equal("18 by three reasons", x.sumOf(3), -21);
        Check.equal("17 none in another", x.linesIn(2), 0);
        Check.equal("18 none in another", x.sumOf(2), 0);
        int[] noCategories = {-1, 8, Integer.MIN_VALUE, Integer.MAX_VALUE};
        for (int category : noCategories) {
            Check.raises("17 category " + category, IndexOutOfBoundsException.class,
                    () -> x.linesIn(category));
            Check.raises("18 category " + category, IndexOutOfBoundsException.class,
                    () -> x.sumOf(category));
        }
        CoinbookSorter y = new CoinbookSorter();
        Typing.rule(y, "", 0, -99999, -99999);
        Typing.text(y, "a");
        for (int i = 0; i < 60; i++) {
            y.addLine(0, -99999);
        }
        Check.equal("18 the greatest sum", y.sumOf(0), -5999940);
    }

    private static void refusedCallsChangeNothing() {
        CoinbookSorter x = new CoinbookSorter();
        Typing.taughtLine(x, "gas bill", 3);
        Typing.line(x, "gas of", 30, -5);
        Typing.stops(x, "of");
        Typing.rule(x, "oil", 3, 0, 99);
        Typing.text(x, "gas");
        String before = Typing.answers(x);
        Check.outcome(() -> x.type('A'));
        Check.outcome(() -> x.addRule(8, 0, 0));
        Check.outcome(() -> x.addRule(0, 1, 0));
        Check.outcome(() -> x.removeRule(1));
        Check.outcome(() -> x.addLine(0, 0));
        Check.outcome(() -> x.addLine(-1, 1));
        Check.outcome(() -> x.correct(2, 0));
        Check.outcome(() -> x.correct(0, 8));
        Check.outcome(() -> x.weight(0, 0));
        Check.outcome(() -> x.rankedAt(0, -1));
        Check.outcome(() -> x.taught(8));
        Check.outcome(() -> x.taughtCountedAnew(8));
        Check.outcome(() -> x.steps(0));
        Check.outcome(() -> x.setSlack(11));
        Check.outcome(() -> x.period(2));
        Check.equal("a call that throws changes nothing", Typing.answers(x), before);
        Check.equal("nor the slack", x.setSlack(2), 2);
        Check.equal("nor the text", x.clearText(), 3);
    }
}
