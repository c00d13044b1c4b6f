/** The sentences of "Terms" on corrections and rules. */
final class RuleTermSentences {
    private RuleTermSentences() {
    }

    static void tell() {
        Doc.term("A person can correct a line to a category, which it has from then on, until it "
                + "is corrected anew or the correction is taken back.",
                RuleTermSentences::correctedFromThenOn);
        Doc.term("All lines that are corrected now, and no others, teach, also those without "
                + "telling words: a line teaches its category each of its telling words once.",
                RuleTermSentences::whatTeaches);
        Doc.term("Rules are asked in the order in which they were added, up to 12 of them.",
                RuleTermSentences::orderOfRules);
        Doc.term("A rule has words, a lowest and a highest amount, and a category.",
                RuleTermSentences::whatARuleHas);
        Doc.term("It holds for a line if all of its words are words of the description (stop words "
                + "or not), and the amount is within its bounds.",
                RuleTermSentences::holdsByWords);
    }

    private static void correctedFromThenOn() {
        CoinbookSorter x = new CoinbookSorter();
        Typing.line(x, "gas", 0, 1);
        x.correct(0, 0);
        Typing.taughtLine(x, "gas", 5);
        Typing.taughtLine(x, "gas", 5);
        Typing.rule(x, "gas", 6, 1, 1);
        Typing.stops(x, "gas");
        Check.equal("from then on", x.categoryOf(0), 0);
        x.correct(0, 7);
        Check.equal("corrected anew", x.categoryOf(0), 7);
        x.correct(0, 7);
        Check.equal("to the same", x.categoryOf(0), 7);
        x.correct(0, CoinbookSorter.NONE);
        Check.equal("taken back", x.categoryOf(0), 6);
        x.correct(0, CoinbookSorter.NONE);
        Check.equal("taken back twice", x.categoryOf(0), 6);
    }

    private static void whatTeaches() {
        CoinbookSorter x = new CoinbookSorter();
        Typing.taughtLine(x, "gas a gas", 3);
        Typing.line(x, "gas b", 0, 1);
        Typing.line(x, "oil", 0, 9);
        Typing.rule(x, "", 4, 9, 9);
        Check.equal("a line by weights", x.categoryOf(1), 3);
        Check.equal("a line by a rule", x.categoryOf(2), 4);
        Check.equal("two words are taught", x.wordsTaught(), 2);
        Check.equal("each once", Typing.taught(x, "gas", 3), 1);
        Check.equal("not by weights", Typing.taught(x, "b", 3), 0);
        Check.equal("not by a rule", Typing.taught(x, "oil", 4), 0);
        // t = T = 1, N = V = 2: 8 - 25; gas 8 - 18; b 0 - 18.
        Check.equal("by one line", x.weight(1, 3), -45);
        Typing.stops(x, "of");
        Typing.taughtLine(x, "of", 3);
        // t = T = 2, N and V as before: 12 - 26; gas 8 - 18; b 0 - 18.
        Check.equal("also by a line without telling words", x.weight(1, 3), -42);
        x.correct(3, CoinbookSorter.NONE);
        Check.equal("that is corrected now", x.weight(1, 3), -45);
    }

    private static void orderOfRules() {
        CoinbookSorter x = new CoinbookSorter();
        for (int rule = 0; rule < 11; rule++) {
            x.addRule(rule % 8, rule + 1, rule + 1);
        }
        x.addRule(7, 1, 12);
        Typing.text(x, "gas");
        for (int amount = 1; amount <= 12; amount++) {
            x.addLine(0, amount);
            Check.equal("the first of two for " + amount, x.ruleFor(amount - 1), amount - 1);
        }
        Check.equal("the twelfth is asked", x.categoryOf(11), 7);
        x.removeRule(0);
        Check.equal("now the last one", x.ruleFor(0), 10);
        x.addRule(0, 1, 1);
        Check.equal("a new one is asked last", x.ruleFor(0), 10);
        State.FULL.refuses("a 13th rule", IllegalStateException.class, y -> y.addRule(0, 0, 0));
    }

    private static void whatARuleHas() {
        CoinbookSorter x = new CoinbookSorter();
        Typing.rule(x, "gas bill", 4, -20, -10);
        String[] texts = {"gas bill", "bill gas", "gas", "gas bill", "gas bill"};
        int[] amounts = {-10, -20, -15, -21, -9};
        int[] due = {4, 4, CoinbookSorter.NONE, CoinbookSorter.NONE, CoinbookSorter.NONE};
        for (int i = 0; i < texts.length; i++) {
            Check.equal(texts[i] + " " + amounts[i],
                    x.categoryOf(Typing.line(x, texts[i], 0, amounts[i])), due[i]);
        }
    }

    private static void holdsByWords() {
        CoinbookSorter x = new CoinbookSorter();
        String twenty = "a b c d e f g h i j k l m n o p q r s t";
        Typing.rule(x, twenty, 1, -99999, 99999);
        Typing.line(x, twenty, 0, 1);
        Typing.line(x, twenty.replace("t", "u"), 0, 1);
        Check.equal("all twenty", x.ruleFor(0), 0);
        Check.equal("all but one", x.ruleFor(1), CoinbookSorter.NONE);
        Typing.stops(x, "a t");
        Check.equal("stop words of the line count", x.ruleFor(0), 0);
        Check.equal("a stop word is needed", x.ruleFor(1), CoinbookSorter.NONE);
        Typing.line(x, "gasbill", 0, 1);
        Typing.rule(x, "gas", 1, -99999, 99999);
        Check.equal("a part is no word", x.ruleFor(2), CoinbookSorter.NONE);
        holdsByAmount(-99999, -99999, -99999, true);
        holdsByAmount(-99999, -99999, -99998, false);
        holdsByAmount(99999, 99999, 99999, true);
        holdsByAmount(99999, 99999, 99998, false);
        holdsByAmount(-99999, 99999, -99999, true);
        holdsByAmount(-99999, 99999, 99999, true);
        holdsByAmount(-5, 5, -5, true);
        holdsByAmount(-5, 5, 5, true);
        holdsByAmount(-5, 5, -6, false);
        holdsByAmount(-5, 5, 6, false);
        holdsByAmount(0, 0, 1, false);
        holdsByAmount(0, 0, -1, false);
    }

    private static void holdsByAmount(int lowest, int highest, int amount, boolean due) {
        CoinbookSorter x = new CoinbookSorter();
        x.addRule(0, lowest, highest);
        Typing.line(x, "a", 0, amount);
        Check.equal(amount + " in " + lowest + " to " + highest, x.ruleFor(0),
                due ? 0 : CoinbookSorter.NONE);
    }
}
