/** Promises 7, 8 and 14: rules. */
public final class RuleTests {
    public static void main(String[] args) {
        addRule();
        addRuleRefuses();
        boundsOfARule();
        ruleWithoutWords();
        removeRule();
        ruleFor();
        stopWordsCountForRules();
        Check.close("RuleTests");
    }

    private static void addRule() {
        CoinbookSorter x = new CoinbookSorter();
        for (int i = 1; i <= 12; i++) {
            Check.equal("7 rule " + i, x.addRule(i % 8, -99999, 99999), i);
        }
        Check.raises("7 the 13th", IllegalStateException.class, () -> x.addRule(0, 0, 0));
        Check.raises("7 the category first", IndexOutOfBoundsException.class,
                () -> x.addRule(8, 1, 0));
        Check.raises("7 then the amounts", IllegalArgumentException.class,
                () -> x.addRule(7, 1, 0));
        Check.equal("7 the last one is there", x.removeRule(11), 4);
        Check.equal("7 room again", x.addRule(0, 0, 0), 12);
    }

    private static void addRuleRefuses() {
        CoinbookSorter x = new CoinbookSorter();
        int[] noCategories = {-1, 8, Integer.MIN_VALUE, Integer.MAX_VALUE};
        for (int category : noCategories) {
            Check.raises("7 category " + category, IndexOutOfBoundsException.class,
                    () -> x.addRule(category, 0, 0));
            Check.raises("7 category first " + category, IndexOutOfBoundsException.class,
                    () -> x.addRule(category, 100000, 0));
        }
        int[][] noBounds = {{1, 0}, {-100000, 0}, {0, 100000}, {100000, 100000},
            {-100001, -100000}, {99999, -99999}, {Integer.MIN_VALUE, Integer.MAX_VALUE}};
        for (int[] bounds : noBounds) {
            Check.raises("7 bounds " + bounds[0], IllegalArgumentException.class,
                    () -> x.addRule(0, bounds[0], bounds[1]));
        }
        Check.equal("7 none of them was added", x.addRule(0, -99999, -99999), 1);
        Check.equal("7 greatest bounds", x.addRule(7, 99999, 99999), 2);
    }

    private static void boundsOfARule() {
        CoinbookSorter x = new CoinbookSorter();
        Typing.rule(x, "gas", 4, -20, -10);
        int[] amounts = {-21, -20, -15, -10, -9, 15};
        int[] due = {-1, 0, 0, 0, -1, -1};
        for (int i = 0; i < amounts.length; i++) {
            Check.equal("7 amount " + amounts[i],
                    x.ruleFor(Typing.line(x, "gas", 0, amounts[i])), due[i]);
        }
    }

    private static void ruleWithoutWords() {
        CoinbookSorter x = new CoinbookSorter();
        Typing.line(x, "gas", 0, 5);
        Typing.line(x, "oil", 0, 6);
        Check.equal("7 a rule without words", Typing.rule(x, "  ", 6, 5, 5), 1);
        Check.equal("7 it holds by the amount", x.categoryOf(0), 6);
        Check.equal("7 and only by it", x.categoryOf(1), CoinbookSorter.NONE);
    }

    private static void removeRule() {
        CoinbookSorter x = new CoinbookSorter();
        x.addRule(3, 1, 1);
        x.addRule(5, 2, 2);
        x.addRule(7, 3, 3);
        int second = Typing.line(x, "a", 0, 2);
        int third = Typing.line(x, "a", 0, 3);
        int[] noRules = {-1, 3, 12, Integer.MIN_VALUE, Integer.MAX_VALUE};
        for (int rule : noRules) {
            Check.raises("8 rule " + rule, IndexOutOfBoundsException.class,
                    () -> x.removeRule(rule));
        }
        Check.equal("8 its category", x.removeRule(1), 5);
        Check.equal("8 it holds no more", x.ruleFor(second), CoinbookSorter.NONE);
        Check.equal("8 the one behind moves up", x.ruleFor(third), 1);
        Check.equal("8 the last", x.removeRule(1), 7);
        Check.equal("8 the first", x.removeRule(0), 3);
        Check.raises("8 none is left", IndexOutOfBoundsException.class, () -> x.removeRule(0));
    }

    private static void ruleFor() {
        CoinbookSorter x = new CoinbookSorter();
        int gas = Typing.line(x, "big gas bill", 0, -50);
        int[] noLines = {-1, 1, 60, Integer.MIN_VALUE, Integer.MAX_VALUE};
        for (int line : noLines) {
            Check.raises("14 line " + line, IndexOutOfBoundsException.class,
                    () -> x.ruleFor(line));
        }
        Check.equal("14 no rule", x.ruleFor(gas), CoinbookSorter.NONE);
        Typing.rule(x, "gas oil", 1, -99999, 99999);
        Typing.rule(x, "ga", 1, -99999, 99999);
        Typing.rule(x, "gasbill", 1, -99999, 99999);
        Check.equal("14 all words, and whole ones", x.ruleFor(gas), CoinbookSorter.NONE);
        Typing.rule(x, "bill gas bill", 2, -99999, 99999);
        Typing.rule(x, "gas", 3, -99999, 99999);
        Check.equal("14 the first that holds", x.ruleFor(gas), 3);
        x.correct(gas, 7);
        Check.equal("14 whatever its category is", x.ruleFor(gas), 3);
        Check.equal("14 the category is corrected", x.categoryOf(gas), 7);
    }

    private static void stopWordsCountForRules() {
        CoinbookSorter x = new CoinbookSorter();
        Typing.line(x, "of gas", 0, 1);
        Typing.line(x, "gas", 0, 1);
        Typing.rule(x, "of", 2, 1, 1);
        Typing.stops(x, "of gas");
        Check.equal("14 stop words are words of the description", x.ruleFor(0), 0);
        Check.equal("14 a rule needs its stop words", x.ruleFor(1), CoinbookSorter.NONE);
    }
}
