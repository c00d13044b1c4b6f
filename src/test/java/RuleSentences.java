/** The sentences of the promises 7, 8 and 14: rules. */
final class RuleSentences {
    private static final int NONE = CoinbookSorter.NONE;
    private static final Class<IndexOutOfBoundsException> BOUNDS = IndexOutOfBoundsException.class;
    private static final Class<IllegalArgumentException> ARGUMENT = IllegalArgumentException.class;
    private static final Class<IllegalStateException> STATE = IllegalStateException.class;

    private RuleSentences() {
    }

    static void tell() {
        Doc.promise(7, "Adds a rule whose words are those of the text; it may have none.",
                RuleSentences::wordsOfTheText);
        Doc.promise(7, "`category`: 0 to 7", RuleSentences::categories);
        Doc.promise(7, "`lowest`: -99999 to 99999", RuleSentences::lowest);
        Doc.promise(7, "`highest`: lowest to 99999", RuleSentences::highest);
        Doc.promise(7, "Returns how many rules there are then.", RuleSentences::countThen);
        Doc.promise(7, "Throws `IndexOutOfBoundsException` if there is no such category",
                () -> Numbers.noSuchCategory((x, category) -> x.addRule(category, 0, 0)));
        Doc.promise(7, "Throws `IllegalArgumentException` if lowest or highest is out of range",
                RuleSentences::outOfRange);
        Doc.promise(7, "Throws `IllegalStateException` if there are 12 rules",
                RuleSentences::twelveRules);
        Doc.promise(8, "Removes a rule.", RuleSentences::removes);
        Doc.promise(8, "Those behind it move up.", RuleSentences::moveUp);
        Doc.promise(8, "`rule`: its place in the order, from 0", RuleSentences::places);
        Doc.promise(8, "Returns its category.", RuleSentences::itsCategory);
        Doc.promise(8, "Throws `IndexOutOfBoundsException` if there is no such rule",
                RuleSentences::noSuchRule);
        Doc.promise(14, "Returns the first rule that holds for a line, whatever its category is.",
                RuleSentences::firstThatHolds);
        Doc.promise(14, "`line`: the number of a line",
                () -> Numbers.firstAndLastLine(CoinbookSorter::ruleFor, NONE, NONE, NONE, 6));
        Doc.promise(14, "Returns the place of the rule; NONE if none holds.",
                RuleSentences::placeOrNone);
        Doc.promise(14, "Throws `IndexOutOfBoundsException` if there is no such line",
                () -> Numbers.noSuchLine(CoinbookSorter::ruleFor));
    }

    /** Twelve rules of the categories 0 to 7 and 0 to 3; rule i holds for the amount i + 1. */
    private static CoinbookSorter twelve() {
        CoinbookSorter x = new CoinbookSorter();
        Typing.text(x, "gas");
        for (int rule = 0; rule < 12; rule++) {
            x.addLine(0, rule + 1);
            x.addRule(rule % 8, rule + 1, rule + 1);
        }
        return x;
    }

    private static void wordsOfTheText() {
        CoinbookSorter x = new CoinbookSorter();
        Typing.line(x, "gas bill", 0, 5);
        Typing.rule(x, "gas car", 0, 5, 5);
        Typing.rule(x, " bill  gas bill ", 1, 5, 5);
        Typing.text(x, "car");
        Check.equal("its words stay", x.ruleFor(0), 1);
        for (String none : new String[] {"", " ", " ".repeat(40)}) {
            CoinbookSorter y = new CoinbookSorter();
            Typing.line(y, "gas", 0, 5);
            Typing.line(y, "oil", 0, 6);
            Check.equal("no words", Typing.rule(y, none, 3, 5, 5), 1);
            Check.equal("it holds by the amount", y.categoryOf(0), 3);
            Check.equal("and not by another", y.categoryOf(1), NONE);
        }
    }

    private static void categories() {
        for (int category = 0; category < 8; category++) {
            CoinbookSorter x = new CoinbookSorter();
            Typing.line(x, "gas", 0, 5);
            x.addRule(category, 5, 5);
            Check.equal("category " + category, x.categoryOf(0), category);
        }
    }

    private static void lowest() {
        Check.equal("-99999", heldBy(-99999, 99999, -99999), 0);
        Check.equal("99999", heldBy(99999, 99999, 99999), 0);
        Check.equal("0, which no line has", heldBy(0, 99999, 1), 0);
        Check.equal("the last below it", heldBy(-99998, 99999, -99999), NONE);
        Check.equal("the last below 99999", heldBy(99999, 99999, 99998), NONE);
    }

    private static void highest() {
        Check.equal("lowest, -99999", heldBy(-99999, -99999, -99999), 0);
        Check.equal("lowest, 0", heldBy(0, 0, 1), NONE);
        Check.equal("99999", heldBy(-99999, 99999, 99999), 0);
        Check.equal("the first above it", heldBy(-99999, 99998, 99999), NONE);
        Check.equal("the first above -99999", heldBy(-99999, -99999, -99998), NONE);
    }

    private static int heldBy(int lowest, int highest, int amount) {
        CoinbookSorter x = new CoinbookSorter();
        Typing.line(x, "gas", 0, amount);
        Check.equal("the first rule", x.addRule(0, lowest, highest), 1);
        return x.ruleFor(0);
    }

    private static void countThen() {
        CoinbookSorter x = new CoinbookSorter();
        for (int count = 1; count <= 12; count++) {
            Check.equal("rules", x.addRule(0, 0, 0), count);
        }
        x.removeRule(11);
        x.removeRule(0);
        Check.equal("one more than ten", x.addRule(0, 0, 0), 11);
    }

    private static void outOfRange() {
        int[][] wrong = {{-100000, 0}, {-100000, -100000}, {1, 0}, {-99998, -99999},
            {99999, 99998}, {0, 100000}, {99999, 100000}, {100000, 100000}, {100000, 99999},
            {Integer.MIN_VALUE, 0}, {0, Integer.MAX_VALUE}, {0, Integer.MIN_VALUE},
            {Integer.MAX_VALUE, Integer.MAX_VALUE}, {Integer.MIN_VALUE, Integer.MAX_VALUE},
            {Integer.MAX_VALUE, Integer.MIN_VALUE}};
        for (State state : new State[] {State.NEW, State.FEW, State.FULL}) {
            for (int[] each : wrong) {
                state.refuses(each[0] + " to " + each[1], ARGUMENT,
                        x -> x.addRule(0, each[0], each[1]));
            }
        }
    }

    private static void twelveRules() {
        State.FULL.refuses("a 13th", STATE, x -> x.addRule(7, -99999, 99999));
        CoinbookSorter x = twelve();
        x.removeRule(5);
        Check.equal("a 12th", x.addRule(0, 0, 0), 12);
        Check.raises("a 13th behind it", STATE, () -> x.addRule(0, 0, 0));
    }

    private static void removes() {
        CoinbookSorter x = twelve();
        x.removeRule(4);
        Check.equal("no rule for 5", x.ruleFor(4), NONE);
        Check.equal("no category for 5", x.categoryOf(4), NONE);
        Check.equal("a rule for 4", x.ruleFor(3), 3);
        CoinbookSorter y = new CoinbookSorter();
        Typing.line(y, "gas", 0, 1);
        y.addRule(3, 1, 1);
        y.addRule(6, 1, 1);
        y.removeRule(0);
        Check.equal("the next one holds", y.categoryOf(0), 6);
        y.removeRule(0);
        Check.equal("the only one is gone", y.categoryOf(0), NONE);
        Check.equal("the first again", y.addRule(0, 2, 2), 1);
    }

    private static void moveUp() {
        for (int removed = 0; removed < 12; removed++) {
            CoinbookSorter x = twelve();
            x.removeRule(removed);
            for (int line = 0; line < 12; line++) {
                int due = line == removed ? NONE : line < removed ? line : line - 1;
                Check.equal("rule for " + line + " less " + removed, x.ruleFor(line), due);
            }
            Check.raises("no place 11 less " + removed, BOUNDS, () -> x.removeRule(11));
        }
    }

    private static void places() {
        Check.equal("the first place", twelve().removeRule(0), 0);
        Check.equal("the second place", twelve().removeRule(1), 1);
        Check.equal("the last of twelve", twelve().removeRule(11), 3);
        CoinbookSorter x = new CoinbookSorter();
        x.addRule(7, 1, 1);
        Check.equal("the only place", x.removeRule(0), 7);
    }

    private static void itsCategory() {
        CoinbookSorter x = twelve();
        for (int rule = 0; rule < 12; rule++) {
            Check.equal("the first one", x.removeRule(0), rule % 8);
        }
        CoinbookSorter y = twelve();
        for (int rule = 11; rule >= 0; rule--) {
            Check.equal("the last one", y.removeRule(rule), rule % 8);
        }
    }

    private static void noSuchRule() {
        int[] far = {-1, -2, 12, 13, Integer.MIN_VALUE, Integer.MAX_VALUE};
        for (State state : new State[] {State.NEW, State.FEW, State.FULL}) {
            for (int rule : far) {
                state.refuses("rule " + rule, BOUNDS, x -> x.removeRule(rule));
            }
        }
        State.NEW.refuses("rule 0 of none", BOUNDS, x -> x.removeRule(0));
        State.FEW.refuses("rule 2 of 2", BOUNDS, x -> x.removeRule(2));
    }

    private static void firstThatHolds() {
        CoinbookSorter x = new CoinbookSorter();
        Typing.line(x, "gas", 0, 5);
        Typing.rule(x, "oil", 0, 5, 5);
        Typing.rule(x, "gas", 1, 4, 4);
        Typing.rule(x, "gas", 2, 5, 5);
        Typing.rule(x, "", 3, 5, 5);
        Check.equal("two hold", x.ruleFor(0), 2);
        for (int category = 0; category < 8; category++) {
            x.correct(0, category);
            Check.equal("corrected to " + category, x.ruleFor(0), 2);
        }
        Typing.stops(x, "gas");
        Check.equal("by a stop word", x.ruleFor(0), 2);
    }

    private static void placeOrNone() {
        CoinbookSorter x = new CoinbookSorter();
        Typing.taughtLine(x, "gas", 3);
        Check.equal("no rules", x.ruleFor(0), NONE);
        x.addRule(3, 2, 2);
        Check.equal("no rule that holds", x.ruleFor(0), NONE);
        x.addRule(3, 1, 1);
        Check.equal("place 1", x.ruleFor(0), 1);
        x.removeRule(0);
        Check.equal("place 0", x.ruleFor(0), 0);
        Check.equal("place 11", twelve().ruleFor(11), 11);
        State.FULL.keeps("a question changes nothing", 6, y -> y.ruleFor(59));
    }
}
