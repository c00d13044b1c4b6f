/** The sentences of "Terms" on weights, and on what a line's category is found by. */
final class WeightTermSentences {
    private WeightTermSentences() {
    }

    static void tell() {
        Doc.term("For a whole number n, 1 or more, the steps of n are 8 * k + 8 * (n - m) / m, the "
                + "quotient rounded down, where m is the greatest power of 2 that is at most n, "
                + "and k its exponent (m is 2 to the power of k).", WeightTermSentences::steps);
        Doc.term("Let t be the number of lines that teach a category, T that of all lines that "
                + "teach, N the sum, over all words, of how many lines teach the category that "
                + "word, V the number of different words that are taught in any category.",
                WeightTermSentences::counts);
        Doc.term("The weight of a category for a line is the steps of t + 1, less the steps of T + "
                + "8, and, for each telling word of the line, the steps of 1 more than the number "
                + "of lines that teach the category that word, less the steps of N + V + 1, all "
                + "together.", WeightTermSentences::weights);
        Doc.term("Only categories that some line teaches have a weight.",
                WeightTermSentences::onlyTaughtOnes);
        Doc.term("The best one is that with the greatest weight, of several the lowest; but a line "
                + "has a best one only if at least one of its telling words is taught in some "
                + "category.", WeightTermSentences::theBestOne);
        Doc.term("The category of a line is that to which it was corrected; otherwise that of the "
                + "first rule that holds for it; otherwise the best one by weights, if it has one.",
                WeightTermSentences::whichCategory);
    }

    private static void steps() {
        CoinbookSorter x = new CoinbookSorter();
        for (int k = 0; k < 20; k++) {
            Check.equal("2 to the power of " + k, x.steps(1 << k), 8 * k);
        }
        for (int k = 4; k < 20; k++) {
            Check.equal("1 less than 2 to the power of " + k, x.steps((1 << k) - 1), 8 * k - 1);
        }
        int[] numbers = {1, 3, 5, 6, 7, 17, 18, 19, 23, 24, 589823, 589824, 1000000};
        int[] due = {0, 12, 18, 20, 22, 32, 33, 33, 35, 36, 152, 153, 159};
        for (int i = 0; i < numbers.length; i++) {
            Check.equal("steps of " + numbers[i], x.steps(numbers[i]), due[i]);
        }
        Check.equal("a number with other steps", firstWrong(), 0);
    }

    /** Every number's steps, literally as the sentence says them, in longs. */
    private static int firstWrong() {
        CoinbookSorter x = new CoinbookSorter();
        for (long n = 1, m = 1, k = 0; n <= 1000000; n++) {
            if (2 * m <= n) {
                m = 2 * m;
                k++;
            }
            if (n % 512 == 0) {
                x = new CoinbookSorter();
            }
            if (x.steps((int) n) != 8 * k + 8 * (n - m) / m) {
                return (int) n;
            }
        }
        return 0;
    }

    private static void counts() {
        CoinbookSorter x = new CoinbookSorter();
        Typing.taughtLine(x, "gas a", 3);
        Typing.taughtLine(x, "gas", 3);
        Typing.taughtLine(x, "gas bus", 1);
        Typing.line(x, "gas", 0, 1);
        // T = 3, V = 3; as 3, t = 2, N = 3: 12 - 27; gas 12 - 22.
        Check.equal("t 2, N 3", x.weight(3, 3), -25);
        // As 1, t = 1, N = 2: 8 - 27; gas 8 - 20.
        Check.equal("t 1, N 2", x.weight(3, 1), -31);
        x.correct(3, 6);
        // T = 4; as 6, t = 1, N = 1: 8 - 28; gas 8 - 18.
        Check.equal("t 1, N 1", x.weight(3, 6), -30);
        Typing.stops(x, "gas a bus");
        // As 3, t = 2, N = V = 0: 12 - 28.
        Check.equal("N 0, V 0", x.weight(3, 3), -16);
    }

    private static void weights() {
        CoinbookSorter x = new CoinbookSorter();
        Typing.taughtLine(x, "gas a", 0);
        String[] texts = {"gas", "gas a", "b", "b c", "gas b c gas"};
        // T = t = 1, N = V = 2: 8 - 25; 8 - 18 for gas and a; 0 - 18 for b and c.
        int[] due = {-27, -37, -35, -53, -63};
        for (int i = 0; i < texts.length; i++) {
            int line = Typing.line(x, texts[i], 0, 1);
            Check.equal("weight of " + texts[i], x.weight(line, 0), due[i]);
        }
        Typing.stops(x, "b");
        Check.equal("no telling word: 8 - 25", x.weight(3, 0), -17);
        Check.equal("without b", x.weight(4, 0), -35);

        CoinbookSorter full = new CoinbookSorter();
        Typing.text(full, "a b c d e f g h i j k l m n o p q r s t");
        for (int line = 0; line < 60; line++) {
            full.addLine(0, 1);
            full.correct(line, 7);
        }
        // t = T = 60, N = 1200, V = 20: 47 - 48; 47 - 81 for each of 20 words.
        Check.equal("60 lines of 20 words", full.weight(59, 7), -681);
    }

    private static void onlyTaughtOnes() {
        CoinbookSorter x = new CoinbookSorter();
        Typing.line(x, "gas", 0, 1);
        Typing.rule(x, "", 2, 1, 1);
        Check.equal("none at all", x.rankedAt(0, 0), CoinbookSorter.NONE);
        Check.raises("not by a rule", IllegalStateException.class, () -> x.weight(0, 2));
        Typing.stops(x, "of");
        Typing.taughtLine(x, "of", 5);
        Check.equal("taught by a line without telling words: 8 - 25 - 0", x.weight(0, 5), -17);
        Check.equal("it is ranked", x.rankedAt(0, 0), 5);
        Check.equal("no other is", x.rankedAt(0, 1), CoinbookSorter.NONE);
        for (int each = 0; each < 8; each++) {
            int category = each;
            if (category != 5) {
                Check.raises("no line teaches " + category, IllegalStateException.class,
                        () -> x.weight(0, category));
            }
        }
        x.correct(1, CoinbookSorter.NONE);
        Check.raises("taken back", IllegalStateException.class, () -> x.weight(0, 5));
        Check.equal("none is ranked", x.rankedAt(0, 0), CoinbookSorter.NONE);
    }

    private static void theBestOne() {
        // As the taught one: 8 + 8 - 12; as the other, with k lines: 8, 12 or 16 - 8 for gas.
        int[][] due = {{5, 5, 2, 2}, {2, 2, 2, 5}};
        for (int k = 0; k <= 3; k++) {
            Check.equal(k + " lines teach 2, one gas to 5", bestBeside(k, 2, 5), due[0][k]);
            Check.equal(k + " lines teach 5, one gas to 2", bestBeside(k, 5, 2), due[1][k]);
        }
        CoinbookSorter x = new CoinbookSorter();
        Typing.taughtLine(x, "gas", 4);
        Check.equal("no word is taught", x.categoryOf(Typing.line(x, "oil b", 0, 1)), -1);
        Check.equal("though 4 has a weight", x.rankedAt(1, 0), 4);
        Check.equal("one word is taught", x.categoryOf(Typing.line(x, "oil b gas", 0, 1)), 4);
        Typing.stops(x, "gas");
        Check.equal("which is no telling word", x.categoryOf(2), CoinbookSorter.NONE);
        Check.equal("nor has it a reason", x.reasonOf(2), CoinbookSorter.NO_REASON);
    }

    /** The category of a line "gas", beside so many lines without telling words. */
    private static int bestBeside(int count, int theirs, int taught) {
        CoinbookSorter x = new CoinbookSorter();
        Typing.stops(x, "of");
        for (int line = 0; line < count; line++) {
            Typing.taughtLine(x, "of", theirs);
        }
        Typing.taughtLine(x, "gas", taught);
        int asked = Typing.line(x, "gas", 0, 1);
        Check.equal("the first place", x.rankedAt(asked, 0), x.categoryOf(asked));
        return x.categoryOf(asked);
    }

    private static void whichCategory() {
        CoinbookSorter x = new CoinbookSorter();
        Typing.taughtLine(x, "gas", 6);
        Typing.line(x, "gas", 0, 5);
        Typing.rule(x, "gas", 1, 5, 5);
        Typing.rule(x, "", 0, -99999, 99999);
        x.correct(1, 7);
        Check.equal("corrected", x.categoryOf(1), 7);
        x.correct(1, CoinbookSorter.NONE);
        Check.equal("the first rule", x.categoryOf(1), 1);
        x.removeRule(0);
        Check.equal("the other rule", x.categoryOf(1), 0);
        x.removeRule(0);
        Check.equal("by weights", x.categoryOf(1), 6);
        x.correct(0, CoinbookSorter.NONE);
        Check.equal("none", x.categoryOf(1), CoinbookSorter.NONE);
    }
}
