/** Promises 15, 16 and 19 to 22: weights, and what was learned. */
public final class WeightTests {
    public static void main(String[] args) {
        steps();
        weight();
        weightWithStopWords();
        weightRefuses();
        rankedAt();
        equalWeightsByNumber();
        rankedAtRefuses();
        taught();
        taughtRefuses();
        wordsTaught();
        Check.close("WeightTests");
    }

    private static void steps() {
        CoinbookSorter x = new CoinbookSorter();
        int[] numbers = {1, 2, 3, 4, 5, 6, 7, 8, 9, 15, 16, 17, 31, 100, 1023, 1024, 524287,
            524288, 999999, 1000000};
        int[] due = {0, 8, 12, 16, 18, 20, 22, 24, 25, 31, 32, 32, 39, 52, 79, 80, 151, 152,
            159, 159};
        for (int i = 0; i < numbers.length; i++) {
            Check.equal("22 steps of " + numbers[i], x.steps(numbers[i]), due[i]);
        }
        int[] wrong = {0, -1, 1000001, Integer.MIN_VALUE, Integer.MAX_VALUE};
        for (int number : wrong) {
            Check.raises("22 steps of " + number, IllegalArgumentException.class,
                    () -> x.steps(number));
        }
    }

    /** Lines: gas a (to 3), bus a a (to 1), gas b; so T = 2, V = 3, N = 2 for both. */
    private static CoinbookSorter twoTaught() {
        CoinbookSorter x = new CoinbookSorter();
        Typing.taughtLine(x, "gas a", 3);
        Typing.taughtLine(x, "bus a a", 1);
        Typing.line(x, "gas b", 0, 1);
        return x;
    }

    private static void weight() {
        CoinbookSorter x = twoTaught();
        // 8 - 26 for the lines; 8 - 20 for gas; 0 - 20 for b.
        Check.equal("15 gas b as 3", x.weight(2, 3), -50);
        Check.equal("15 gas b as 1", x.weight(2, 1), -58);
        Check.equal("15 a line's own teaching counts", x.weight(0, 3), -42);
        Check.equal("15 a word twice counts once", x.weight(1, 1), -42);
        Check.equal("15 the better one", x.categoryOf(2), 3);
        x.correct(1, 3);
        // t = T = 2, N = 4, V = 3: 12 - 26; gas 8 - 24; b 0 - 24.
        Check.equal("15 two lines teach 3", x.weight(2, 3), -54);
        // a is taught twice: 12 - 26; bus 8 - 24; a 12 - 24.
        Check.equal("15 a is taught twice", x.weight(1, 3), -42);
    }

    private static void weightWithStopWords() {
        CoinbookSorter x = twoTaught();
        Typing.stops(x, "a b");
        // V = 2, N = 1 for both: 8 - 26; gas 8 - 16.
        Check.equal("15 stop words do not count", x.weight(2, 3), -26);
        Check.equal("15 nor for another", x.weight(2, 1), -34);
        Typing.stops(x, "gas bus");
        // Lines without telling words teach still: t = 1, T = 2.
        Check.equal("15 no telling words", x.weight(2, 3), -18);
        Check.equal("16 lines without telling words teach", x.rankedAt(2, 1), 3);
        Check.equal("12 but there is no best one", x.categoryOf(2), CoinbookSorter.NONE);
    }

    private static void weightRefuses() {
        CoinbookSorter x = twoTaught();
        int[] noCategories = {-1, 8, Integer.MIN_VALUE, Integer.MAX_VALUE};
        for (int category : noCategories) {
            Check.raises("15 category " + category, IndexOutOfBoundsException.class,
                    () -> x.weight(0, category));
        }
        int[] noLines = {-1, 3, 60, Integer.MIN_VALUE, Integer.MAX_VALUE};
        for (int line : noLines) {
            Check.raises("15 line " + line, IndexOutOfBoundsException.class,
                    () -> x.weight(line, 3));
            Check.raises("15 the line before the state", IndexOutOfBoundsException.class,
                    () -> x.weight(line, 0));
        }
        Check.raises("15 no line teaches 0", IllegalStateException.class, () -> x.weight(0, 0));
        x.correct(0, CoinbookSorter.NONE);
        Check.raises("15 none teaches 3 now", IllegalStateException.class, () -> x.weight(0, 3));
    }

    private static void rankedAt() {
        CoinbookSorter x = new CoinbookSorter();
        Typing.taughtLine(x, "oil", 2);
        Typing.taughtLine(x, "oil gas", 5);
        Typing.taughtLine(x, "gas", 6);
        Typing.taughtLine(x, "gas", 6);
        int gas = Typing.line(x, "gas", 0, 1);
        // T = 4, V = 2: 6: 12 - 28 + 12 - 18; 5: 8 - 28 + 8 - 18; 2: 8 - 28 + 0 - 16.
        Check.equal("15 gas as 6", x.weight(gas, 6), -22);
        Check.equal("15 gas as 5", x.weight(gas, 5), -30);
        Check.equal("15 gas as 2", x.weight(gas, 2), -36);
        int[] due = {6, 5, 2, -1, -1};
        for (int place = 0; place < due.length; place++) {
            Check.equal("16 place " + place, x.rankedAt(gas, place), due[place]);
        }
        Check.equal("16 a far place", x.rankedAt(gas, Integer.MAX_VALUE), CoinbookSorter.NONE);
        x.correct(gas, 2);
        Check.equal("16 whatever its category is", x.rankedAt(gas, 0), 6);
    }

    private static void equalWeightsByNumber() {
        CoinbookSorter x = new CoinbookSorter();
        for (int category = 7; category >= 0; category--) {
            Typing.taughtLine(x, "gas", category);
        }
        int gas = Typing.line(x, "gas", 0, 1);
        for (int place = 0; place < 8; place++) {
            Check.equal("16 of the same weight", x.rankedAt(gas, place), place);
        }
        Check.equal("16 eight have a weight", x.rankedAt(gas, 8), CoinbookSorter.NONE);
        Check.equal("12 of several the lowest", x.categoryOf(gas), 0);
    }

    private static void rankedAtRefuses() {
        CoinbookSorter x = twoTaught();
        int[] wrong = {-1, Integer.MIN_VALUE};
        for (int place : wrong) {
            Check.raises("16 place " + place, IndexOutOfBoundsException.class,
                    () -> x.rankedAt(0, place));
        }
        int[] noLines = {-1, 3, 60, Integer.MIN_VALUE, Integer.MAX_VALUE};
        for (int line : noLines) {
            Check.raises("16 line " + line, IndexOutOfBoundsException.class,
                    () -> x.rankedAt(line, 0));
        }
        CoinbookSorter y = new CoinbookSorter();
        Typing.line(y, "gas", 0, 1);
        Check.equal("16 none teaches", y.rankedAt(0, 0), CoinbookSorter.NONE);
    }

    private static void taught() {
        CoinbookSorter x = new CoinbookSorter();
        int first = Typing.taughtLine(x, "gas bill gas", 4);
        int second = Typing.taughtLine(x, "gas", 4);
        Typing.taughtLine(x, "gas oil", 0);
        Typing.line(x, "gas car", 0, 1);
        expectTaught(x, "gas", 4, 2);
        expectTaught(x, " gas gas ", 4, 2);
        expectTaught(x, "bill", 4, 1);
        expectTaught(x, "gas", 0, 1);
        expectTaught(x, "gas", 7, 0);
        expectTaught(x, "car", 4, 0);
        expectTaught(x, "ga", 4, 0);
        expectTaught(x, "unheard", 4, 0);
        Typing.stops(x, "gas");
        expectTaught(x, "gas", 4, 0);
        x.correct(second, 5);
        Typing.noStops(x, "gas");
        expectTaught(x, "gas", 4, 1);
        expectTaught(x, "gas", 5, 1);
        x.correct(first, CoinbookSorter.NONE);
        expectTaught(x, "gas", 4, 0);
        expectTaught(x, "bill", 4, 0);
    }

    private static void expectTaught(CoinbookSorter x, String word, int category, int due) {
        Check.equal("19 " + word + " " + category, Typing.taught(x, word, category), due);
        Check.equal("20 " + word + " " + category, Typing.taughtAnew(x, word, category), due);
    }

    private static void taughtRefuses() {
        CoinbookSorter x = new CoinbookSorter();
        Typing.taughtLine(x, "gas oil", 4);
        for (String text : new String[] {"", "  ", "gas oil", "gas oil gas"}) {
            Typing.text(x, text);
            Check.raises("19 '" + text + "'", IllegalStateException.class, () -> x.taught(4));
            Check.raises("20 '" + text + "'", IllegalStateException.class,
                    () -> x.taughtCountedAnew(4));
            Check.raises("19 the category first", IndexOutOfBoundsException.class,
                    () -> x.taught(8));
            Check.raises("20 the category first", IndexOutOfBoundsException.class,
                    () -> x.taughtCountedAnew(8));
        }
        Typing.stops(x, "gas");
        int[] noCategories = {-1, 8, Integer.MIN_VALUE, Integer.MAX_VALUE};
        for (int category : noCategories) {
            Check.raises("19 category " + category, IndexOutOfBoundsException.class,
                    () -> x.taught(category));
            Check.raises("20 category " + category, IndexOutOfBoundsException.class,
                    () -> x.taughtCountedAnew(category));
        }
    }

    private static void wordsTaught() {
        CoinbookSorter x = new CoinbookSorter();
        Typing.line(x, "gas oil", 0, 1);
        Check.equal("21 none", x.wordsTaught(), 0);
        x.correct(0, 2);
        Check.equal("21 two", x.wordsTaught(), 2);
        int other = Typing.taughtLine(x, "gas car gas", 3);
        Check.equal("21 in any category once", x.wordsTaught(), 3);
        Typing.stops(x, "gas");
        Check.equal("21 no stop words", x.wordsTaught(), 2);
        x.correct(other, CoinbookSorter.NONE);
        Check.equal("21 taken back", x.wordsTaught(), 1);
        Typing.noStops(x, "gas");
        Check.equal("21 taught still by the first", x.wordsTaught(), 2);
    }
}
