/** The sentences of the promises 19 to 22: what was learned. */
final class LearnedSentences {
    private static final int NONE = CoinbookSorter.NONE;
    private static final Class<IllegalArgumentException> ARGUMENT = IllegalArgumentException.class;
    private static final Class<IllegalStateException> STATE = IllegalStateException.class;

    private LearnedSentences() {
    }

    static void tell() {
        Doc.promise(19, "Returns how many lines teach a category the text, which has a single "
                + "different word; from counts that are kept as lines are corrected.",
                () -> keptCounts(CoinbookSorter::taught));
        Doc.promise(19, "`category`: 0 to 7", () -> eachCategory(CoinbookSorter::taught));
        Doc.promise(19, "Returns how many; 0 for a stop word.",
                () -> stopWord(CoinbookSorter::taught));
        Doc.promise(19, "Throws `IndexOutOfBoundsException` if there is no such category",
                () -> Numbers.noSuchCategory(CoinbookSorter::taught));
        Doc.promise(19, "Throws `IllegalStateException` if the text does not have just one "
                + "different word", () -> notOneWord(CoinbookSorter::taught));
        Doc.promise(20, "Returns the same, counted anew.", LearnedSentences::theSame);
        Doc.promise(20, "`category`: 0 to 7",
                () -> eachCategory(CoinbookSorter::taughtCountedAnew));
        Doc.promise(20, "Returns how many; 0 for a stop word.",
                () -> stopWord(CoinbookSorter::taughtCountedAnew));
        Doc.promise(20, "Throws `IndexOutOfBoundsException` if there is no such category",
                () -> Numbers.noSuchCategory(CoinbookSorter::taughtCountedAnew));
        Doc.promise(20, "Throws `IllegalStateException` if the text does not have just one "
                + "different word", () -> notOneWord(CoinbookSorter::taughtCountedAnew));
        Doc.promise(21, "Returns how many different words are taught in any category.",
                LearnedSentences::wordsTaught);
        Doc.promise(22, "Returns the steps of a number.", LearnedSentences::steps);
        Doc.promise(22, "`number`: 1 to 1000000", LearnedSentences::numbers);
        Doc.promise(22, "Returns the steps.", LearnedSentences::fewestAndMostSteps);
        Doc.promise(22, "Throws `IllegalArgumentException` if number is out of range",
                LearnedSentences::noSteps);
    }

    private static void keptCounts(Numbers.AskOf taught) {
        CoinbookSorter x = new CoinbookSorter();
        Typing.line(x, "gas bill gas", 0, 1);
        Typing.lines(x, "gas", 1, 0, 0);
        Check.equal("no line is corrected", taught.of(x, 4), 0);
        x.correct(0, 4);
        Check.equal("one", taught.of(x, 4), 1);
        x.correct(1, 4);
        Check.equal("two", taught.of(x, 4), 2);
        x.correct(1, 4);
        Check.equal("still two", taught.of(x, 4), 2);
        x.correct(1, 5);
        Check.equal("one again", taught.of(x, 4), 1);
        Check.equal("one to another", taught.of(x, 5), 1);
        x.correct(0, NONE);
        x.correct(2, NONE);
        Check.equal("none", taught.of(x, 4), 0);
        Check.equal("none of another", taught.of(x, 0), 0);
        Typing.text(x, " gas  gas gas ");
        Check.equal("a single different word", taught.of(x, 5), 1);
        for (String other : new String[] {"ga", "gasb", "as", "bill", "unheard"}) {
            Typing.text(x, other);
            Check.equal(other, taught.of(x, 5), 0);
        }
        sixtyTaught(taught);
    }

    private static void sixtyTaught(Numbers.AskOf taught) {
        CoinbookSorter x = new CoinbookSorter();
        Typing.text(x, State.FORTY_LETTERS);
        for (int line = 0; line < 60; line++) {
            x.addLine(0, 1);
            x.correct(line, 7);
            Check.equal("by " + line + " and one", taught.of(x, 7), line + 1);
        }
        for (int line = 0; line < 60; line++) {
            x.correct(line, line % 2 == 0 ? NONE : 0);
        }
        Check.equal("none is left", taught.of(x, 7), 0);
        Check.equal("the half", taught.of(x, 0), 30);
    }

    private static void eachCategory(Numbers.AskOf taught) {
        CoinbookSorter x = new CoinbookSorter();
        Typing.text(x, "gas");
        int line = 0;
        for (int category = 0; category < 8; category++) {
            for (int i = 0; i <= category; i++) {
                x.addLine(0, 1);
                x.correct(line, category);
                line++;
            }
        }
        for (int category = 0; category < 8; category++) {
            Check.equal("category " + category, taught.of(x, category), category + 1);
        }
    }

    private static void stopWord(Numbers.AskOf taught) {
        CoinbookSorter x = new CoinbookSorter();
        Typing.taughtLine(x, "of", 3);
        Check.equal("one", taught.of(x, 3), 1);
        x.addStops();
        Check.equal("a stop word", taught.of(x, 3), 0);
        Typing.taughtLine(x, "of gas", 3);
        Typing.text(x, "of of");
        Check.equal("taught as a stop word", taught.of(x, 3), 0);
        x.correct(0, 6);
        x.removeStops();
        Check.equal("a stop word no more", taught.of(x, 3), 1);
        Check.equal("corrected as a stop word", taught.of(x, 6), 1);
        Typing.text(x, "in");
        x.addStops();
        Check.equal("a stop word of no line", taught.of(x, 3), 0);
    }

    private static void notOneWord(Numbers.AskOf taught) {
        for (State state : new State[] {State.NEW, State.TWO_WORDS, State.BLANK}) {
            for (int category : new int[] {0, 3, 7}) {
                state.refuses("category " + category, STATE, x -> taught.of(x, category));
            }
        }
        CoinbookSorter x = State.FEW.make();
        for (String text : new String[] {"gas of", "of to", "a b c d e f g h i j k l m n o p q r"}) {
            Typing.text(x, text);
            Check.raises(text, STATE, () -> taught.of(x, 3));
        }
        State.FEW.keeps("just one", 1, y -> taught.of(y, 3));
        State.FULL.keeps("just one of 40 letters", 1, y -> taught.of(y, 3));
    }

    private static void theSame() {
        keptCounts(CoinbookSorter::taughtCountedAnew);
        CoinbookSorter x = new CoinbookSorter();
        Typing.text(x, "gas");
        for (int i = 0; i < 40; i++) {
            x.addLine(i, 1);
            x.correct(i * 7 % (i + 1), i % 9 - 1);
            if (i % 5 == 0) {
                x.addStops();
            } else if (i % 5 == 2) {
                x.removeStops();
            }
            for (int category = i % 4; category < 8; category += 4) {
                Check.equal("category " + category + " behind " + i,
                        x.taughtCountedAnew(category), x.taught(category));
            }
        }
    }

    private static void wordsTaught() {
        State.NEW.keeps("none", 0, CoinbookSorter::wordsTaught);
        State.FEW.keeps("gas and bill", 2, CoinbookSorter::wordsTaught);
        State.FULL.keeps("gas, bill, oil, and 40 letters", 4, CoinbookSorter::wordsTaught);
        CoinbookSorter x = new CoinbookSorter();
        Typing.line(x, "gas gas bill", 0, 1);
        Check.equal("not by a line that is not corrected", x.wordsTaught(), 0);
        x.correct(0, 0);
        Check.equal("in category 0", x.wordsTaught(), 2);
        Typing.taughtLine(x, "gas", 7);
        Check.equal("in two categories once", x.wordsTaught(), 2);
        x.correct(0, NONE);
        Check.equal("in category 7", x.wordsTaught(), 1);
        x.addStops();
        Check.equal("no stop word", x.wordsTaught(), 0);
        x.removeStops();
        Check.equal("no stop word any more", x.wordsTaught(), 1);
        x.correct(1, NONE);
        Check.equal("none any more", x.wordsTaught(), 0);
    }

    private static void steps() {
        int[] numbers = {1, 2, 3, 4, 5, 6, 7, 8, 9, 15, 16, 100, 1023, 1024};
        int[] due = {0, 8, 12, 16, 18, 20, 22, 24, 25, 31, 32, 52, 79, 80};
        for (int i = 0; i < numbers.length; i++) {
            int number = numbers[i];
            State.NEW.keeps("steps of " + number, due[i], x -> x.steps(number));
        }
    }

    private static void numbers() {
        State.FEW.keeps("the lowest", 0, x -> x.steps(1));
        State.FEW.keeps("the next one", 8, x -> x.steps(2));
        State.FULL.keeps("the last but one", 159, x -> x.steps(999999));
        State.FULL.keeps("the greatest", 159, x -> x.steps(1000000));
    }

    private static void fewestAndMostSteps() {
        CoinbookSorter x = new CoinbookSorter();
        Check.equal("none", x.steps(1), 0);
        Check.equal("below 2 to the power of 19", x.steps(524287), 151);
        Check.equal("2 to the power of 19", x.steps(524288), 152);
        Check.equal("the last of 158", x.steps(983039), 158);
        Check.equal("the first of 159", x.steps(983040), 159);
        Check.equal("the most", x.steps(1000000), 159);
    }

    private static void noSteps() {
        int[] wrong = {0, -1, 1000001, 1048576, Integer.MIN_VALUE, Integer.MAX_VALUE};
        for (State state : State.ALL) {
            for (int number : wrong) {
                state.refuses("steps of " + number, ARGUMENT, x -> x.steps(number));
            }
        }
    }
}
