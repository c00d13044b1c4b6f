/** The sentences of the promises 9 to 13: lines, corrections, categories and reasons. */
final class LineSentences {
    private static final int NONE = CoinbookSorter.NONE;
    private static final Class<IllegalArgumentException> ARGUMENT = IllegalArgumentException.class;
    private static final Class<IllegalStateException> STATE = IllegalStateException.class;

    private LineSentences() {
    }

    static void tell() {
        Doc.promise(9, "Adds a line whose description is the text.", LineSentences::adds);
        Doc.promise(9, "`day`: 0 to 9999", LineSentences::days);
        Doc.promise(9, "`amount`: -99999 to 99999, but not 0", LineSentences::amounts);
        Doc.promise(9, "Returns its number.", LineSentences::itsNumber);
        Doc.promise(9, "Throws `IllegalArgumentException` if day or amount is out of range",
                LineSentences::outOfRange);
        Doc.promise(9, "Throws `IllegalStateException` if the text has no word, or there are 60 "
                + "lines", LineSentences::noWordOrFull);
        Doc.promise(10, "Corrects a line.", LineSentences::corrects);
        Doc.promise(10, "`line`: the number of a line", () -> Numbers.firstAndLastLine(
                (x, line) -> x.correct(line, 5), 3, NONE, 0, NONE));
        Doc.promise(10, "`category`: 0 to 7, or NONE to take the correction back",
                LineSentences::categoriesOrNone);
        Doc.promise(10, "Returns the category to which it was corrected before; NONE if to none.",
                LineSentences::correctedBefore);
        Doc.promise(10, "Throws `IndexOutOfBoundsException` if there is no such line",
                LineSentences::noLineToCorrect);
        Doc.promise(10, "Throws `IllegalArgumentException` if category is neither a category nor "
                + "NONE", LineSentences::neitherCategoryNorNone);
        Doc.promise(11, "Returns how many lines there are.", LineSentences::howMany);
        Doc.promise(12, "Returns the category of a line.", LineSentences::category);
        Doc.promise(12, "`line`: the number of a line",
                () -> Numbers.firstAndLastLine(CoinbookSorter::categoryOf, 3, 3, 0, 6));
        Doc.promise(12, "Returns the category; NONE if it has none.",
                LineSentences::categoryOrNone);
        Doc.promise(12, "Throws `IndexOutOfBoundsException` if there is no such line",
                () -> Numbers.noSuchLine(CoinbookSorter::categoryOf));
        Doc.promise(13, "Tells by what a line has its category.", LineSentences::byWhat);
        Doc.promise(13, "`line`: the number of a line",
                () -> Numbers.firstAndLastLine(CoinbookSorter::reasonOf, 1, 3, 1, 2));
        Doc.promise(13, "Returns NO_REASON if it has none; CORRECTED, RULE or WEIGHTS.",
                LineSentences::reasons);
        Doc.promise(13, "Throws `IndexOutOfBoundsException` if there is no such line",
                () -> Numbers.noSuchLine(CoinbookSorter::reasonOf));
    }

    private static void adds() {
        CoinbookSorter x = new CoinbookSorter();
        Typing.line(x, " gas  bill ", 0, 5);
        Typing.text(x, "oil");
        x.correct(0, 2);
        Check.equal("the text of then, not of now", x.taught(2), 0);
        Check.equal("gas", Typing.taught(x, "gas", 2), 1);
        Check.equal("bill", Typing.taught(x, "bill", 2), 1);
        Check.equal("no other word", x.wordsTaught(), 2);
        Typing.line(x, State.FORTY_LETTERS, 0, 5);
        x.correct(1, 2);
        Check.equal("a word of 40 letters", x.taught(2), 1);
        Typing.taughtLine(x, "a b c d e f g h i j k l m n o p q r s t", 2);
        Check.equal("20 words", x.wordsTaught(), 23);
        Typing.stops(x, "of");
        Check.equal("stop words are words", x.addLine(0, 5), 3);
    }

    private static void days() {
        CoinbookSorter x = new CoinbookSorter();
        Typing.lines(x, "gas", 1, 9999, 9997, 9995);
        Check.equal("9999", x.nextDue(0), 10001);
        Typing.lines(x, "oil", 1, 0, 0, 0);
        Check.equal("0", x.nextDue(3), 2);
        Typing.lines(x, "rent", 1, 1, 9998);
        Check.equal("1 and 9998", x.lines(), 8);
    }

    private static void amounts() {
        int[] amounts = {-99999, -99998, -2, -1, 1, 2, 99998, 99999};
        CoinbookSorter x = new CoinbookSorter();
        x.type('a');
        for (int i = 0; i < amounts.length; i++) {
            Check.equal("amount " + amounts[i], x.addLine(0, amounts[i]), i);
            x.correct(i, i);
            Check.equal("its sum", x.sumOf(i), amounts[i]);
        }
    }

    private static void itsNumber() {
        CoinbookSorter x = new CoinbookSorter();
        x.type('a');
        Check.equal("the first", x.addLine(5, 1), 0);
        Check.raises("a refused one", ARGUMENT, () -> x.addLine(5, 0));
        for (int line = 1; line < 60; line++) {
            Check.equal("the next", x.addLine(5, 1), line);
        }
    }

    private static void outOfRange() {
        int[][] wrong = {{-1, 1}, {10000, 1}, {0, 0}, {9999, 0}, {0, -100000}, {0, 100000},
            {-1, 0}, {10000, 100000}, {Integer.MIN_VALUE, 1}, {Integer.MAX_VALUE, 1},
            {0, Integer.MIN_VALUE}, {0, Integer.MAX_VALUE}};
        for (State state : State.ALL) {
            for (int[] each : wrong) {
                state.refuses("day " + each[0] + ", amount " + each[1], ARGUMENT,
                        x -> x.addLine(each[0], each[1]));
            }
        }
    }

    private static void noWordOrFull() {
        State.NEW.refuses("an empty text", STATE, x -> x.addLine(0, 1));
        State.BLANK.refuses("40 spaces", STATE, x -> x.addLine(9999, -99999));
        State.FULL.refuses("60 lines", STATE, x -> x.addLine(9999, 99999));
        new State("60 lines, no word", 60, 65, x -> {
            x.type('a');
            for (int line = 0; line < 60; line++) {
                x.addLine(line, 1);
            }
            x.clearText();
        }).refuses("both", STATE, x -> x.addLine(0, 1));
        CoinbookSorter x = State.FULL.make();
        x.correct(59, NONE);
        x.removeRule(0);
        Check.raises("no line ever goes", STATE, () -> x.addLine(0, 1));
    }

    private static void corrects() {
        CoinbookSorter x = new CoinbookSorter();
        Typing.line(x, "gas", 0, 5);
        Typing.line(x, "gas", 0, 5);
        x.correct(1, 4);
        Check.equal("its category", x.categoryOf(1), 4);
        Check.equal("by correction", x.reasonOf(1), CoinbookSorter.CORRECTED);
        Check.equal("the other by weights", x.reasonOf(0), CoinbookSorter.WEIGHTS);
        x.correct(1, 0);
        Check.equal("anew", x.categoryOf(1), 0);
        Check.equal("the old one is not taught", x.taught(4), 0);
        Check.equal("the new one is", x.taught(0), 1);
        x.correct(1, 0);
        Check.equal("to the same, once", x.taught(0), 1);
        Check.equal("its weight, once: 8 - 25 + 8 - 12", x.weight(0, 0), -21);
    }

    private static void categoriesOrNone() {
        CoinbookSorter x = State.FEW.make();
        for (int category = 0; category < 8; category++) {
            x.correct(6, category);
            Check.equal("category " + category, x.categoryOf(6), category);
            Check.equal("taught " + category, x.taught(category), category == 3 ? 2 : 1);
        }
        x.correct(6, NONE);
        Check.equal("taken back", x.reasonOf(6), CoinbookSorter.WEIGHTS);
        Check.equal("taught no more", x.taught(7), 0);
        State.FEW.keeps("NONE for a line that is not corrected", NONE, y -> y.correct(6, NONE));
        State.FEW.keeps("the category that it has", 3, y -> y.correct(0, 3));
        State.FULL.keeps("NONE for line 59", NONE, y -> y.correct(59, NONE));
    }

    private static void correctedBefore() {
        CoinbookSorter x = new CoinbookSorter();
        Typing.line(x, "gas", 0, 5);
        x.addRule(6, 5, 5);
        Check.equal("to none, though a rule holds", x.correct(0, 0), NONE);
        for (int category = 1; category < 8; category++) {
            Check.equal("before " + category, x.correct(0, category), category - 1);
        }
        Check.equal("the last", x.correct(0, NONE), 7);
        Check.equal("to none", x.correct(0, NONE), NONE);
        Typing.taughtLine(x, "gas", 2);
        Check.equal("to none, though it has weights", x.correct(0, 3), NONE);
    }

    private static void noLineToCorrect() {
        Numbers.noSuchLine((x, line) -> x.correct(line, 0));
        Numbers.noSuchLine((x, line) -> x.correct(line, NONE));
    }

    private static void neitherCategoryNorNone() {
        int[] wrong = {-2, -3, 8, 9, Integer.MIN_VALUE, Integer.MAX_VALUE};
        for (int category : wrong) {
            State.FEW.refuses("to " + category, ARGUMENT, x -> x.correct(0, category));
            State.FEW.refuses("not corrected, to " + category, ARGUMENT,
                    x -> x.correct(6, category));
            State.FULL.refuses("the last to " + category, ARGUMENT, x -> x.correct(59, category));
        }
    }

    private static void howMany() {
        State.NEW.keeps("none", 0, CoinbookSorter::lines);
        State.FEW.keeps("seven", 7, CoinbookSorter::lines);
        State.FULL.keeps("sixty", 60, CoinbookSorter::lines);
        CoinbookSorter x = new CoinbookSorter();
        x.type('a');
        x.addLine(0, 1);
        Check.equal("one", x.lines(), 1);
    }

    private static void category() {
        State.FEW.keeps("by correction", 3, x -> x.categoryOf(0));
        State.FEW.keeps("by a rule", 5, x -> x.categoryOf(1));
        State.FEW.keeps("by weights", 3, x -> x.categoryOf(6));
        State.FULL.keeps("the last by a rule", 6, x -> x.categoryOf(59));
    }

    private static void categoryOrNone() {
        CoinbookSorter x = new CoinbookSorter();
        Typing.line(x, "gas", 0, 5);
        Check.equal("none, alone", x.categoryOf(0), NONE);
        Typing.taughtLine(x, "oil", 0);
        Check.equal("none, no word is taught", x.categoryOf(0), NONE);
        x.addRule(7, 5, 5);
        Check.equal("none, the rule has another word", x.categoryOf(0), NONE);
        Typing.rule(x, "gas", 7, 5, 5);
        Check.equal("the last", x.categoryOf(0), 7);
        x.correct(0, 0);
        Check.equal("the first", x.categoryOf(0), 0);
    }

    private static void byWhat() {
        State.FEW.keeps("by correction", CoinbookSorter.CORRECTED, x -> x.reasonOf(0));
        State.FEW.keeps("by a rule", CoinbookSorter.RULE, x -> x.reasonOf(1));
        State.FEW.keeps("by weights", CoinbookSorter.WEIGHTS, x -> x.reasonOf(6));
        State.FULL.keeps("the last by a rule", CoinbookSorter.RULE, x -> x.reasonOf(59));
    }

    private static void reasons() {
        CoinbookSorter x = new CoinbookSorter();
        Typing.line(x, "gas of", 0, 5);
        Check.equal("none", x.reasonOf(0), CoinbookSorter.NO_REASON);
        Typing.taughtLine(x, "oil of", 0);
        Check.equal("weights, by one word", x.reasonOf(0), CoinbookSorter.WEIGHTS);
        Typing.stops(x, "of");
        Check.equal("none, by a stop word", x.reasonOf(0), CoinbookSorter.NO_REASON);
        Typing.rule(x, "of", 0, 5, 5);
        Check.equal("a rule", x.reasonOf(0), CoinbookSorter.RULE);
        x.correct(0, 0);
        Check.equal("corrected, to the same", x.reasonOf(0), CoinbookSorter.CORRECTED);
        x.removeRule(0);
        Check.equal("still corrected", x.reasonOf(0), CoinbookSorter.CORRECTED);
        x.correct(0, NONE);
        Check.equal("none again", x.reasonOf(0), CoinbookSorter.NO_REASON);
    }
}
