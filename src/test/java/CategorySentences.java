/** The sentences of the promises 15 to 18: weights, ranks, and the lines of a category. */
final class CategorySentences {
    private static final int NONE = CoinbookSorter.NONE;
    private static final Class<IndexOutOfBoundsException> BOUNDS = IndexOutOfBoundsException.class;
    private static final Class<IllegalStateException> STATE = IllegalStateException.class;

    private CategorySentences() {
    }

    static void tell() {
        Doc.promise(15, "Returns the weight of a category for a line.",
                CategorySentences::weightForALine);
        Doc.promise(15, "`line`: the number of a line", () -> Numbers.firstAndLastLine(
                (x, line) -> x.weight(line, 3), -38, -28, -52, -36));
        Doc.promise(15, "`category`: 0 to 7", CategorySentences::weightOfEach);
        Doc.promise(15, "Returns the weight; it is 0 or below.", CategorySentences::zeroOrBelow);
        Doc.promise(15, "Throws `IndexOutOfBoundsException` if there is no such line or category",
                CategorySentences::noLineOrCategory);
        Doc.promise(15, "Throws `IllegalStateException` if no line teaches the category",
                CategorySentences::noLineTeaches);
        Doc.promise(16, "Returns the category at a place, if all that have a weight are ordered by "
                + "falling weights for a line, those with the same weight by rising numbers.",
                CategorySentences::order);
        Doc.promise(16, "`line`: the number of a line", () -> Numbers.firstAndLastLine(
                (x, line) -> x.rankedAt(line, 0), 3, 3, 2, 3));
        Doc.promise(16, "`place`: from 0", CategorySentences::places);
        Doc.promise(16, "Returns the category; NONE if not so many have a weight.",
                CategorySentences::notSoMany);
        Doc.promise(16, "Throws `IndexOutOfBoundsException` if there is no such line, or place is "
                + "below 0", CategorySentences::noLineOrBelow);
        Doc.promise(17, "Counts the lines of a category, by whichever reason.",
                CategorySentences::counts);
        Doc.promise(17, "`category`: 0 to 7", CategorySentences::countsOfEach);
        Doc.promise(17, "Returns how many.", CategorySentences::howMany);
        Doc.promise(17, "Throws `IndexOutOfBoundsException` if there is no such category",
                () -> Numbers.noSuchCategory(CoinbookSorter::linesIn));
        Doc.promise(18, "Returns the sum of the amounts of all lines of a category.",
                CategorySentences::sums);
        Doc.promise(18, "`category`: 0 to 7", CategorySentences::sumsOfEach);
        Doc.promise(18, "Throws `IndexOutOfBoundsException` if there is no such category",
                () -> Numbers.noSuchCategory(CoinbookSorter::sumOf));
    }

    private static void weightForALine() {
        // T = 2, V = 2; as 3, N = 2: 8 - 26, and 8 - 18 for gas and bill; as 0, N = 0: 0 - 12.
        State.FEW.keeps("gas bill as 3", -38, x -> x.weight(0, 3));
        State.FEW.keeps("gas bill as 0", -42, x -> x.weight(0, 0));
        State.FEW.keeps("gas car as 3, though a rule holds", -46, x -> x.weight(1, 3));
        State.FEW.keeps("a line without telling words as 3", -18, x -> x.weight(5, 3));
        State.FEW.keeps("gas as 0", -30, x -> x.weight(6, 0));
        // T = 16, V = 4; as 7, t = 1, N = 1: 8 - 36; 0 - 20.
        State.FULL.keeps("the last line as 7", -48, x -> x.weight(59, 7));
    }

    private static void weightOfEach() {
        CoinbookSorter x = new CoinbookSorter();
        for (int category = 0; category < 8; category++) {
            Typing.taughtLine(x, "gas", category);
        }
        for (int category = 0; category < 8; category++) {
            // t = 1, T = 8, N = V = 1: 8 - 32; 8 - 12.
            Check.equal("category " + category, x.weight(0, category), -28);
        }
    }

    private static void zeroOrBelow() {
        CoinbookSorter x = new CoinbookSorter();
        Typing.text(x, "a");
        for (int line = 0; line < 60; line++) {
            x.addLine(0, 1);
            x.correct(line, 0);
            Check.that("with " + line + " lines", x.weight(line, 0) <= 0);
        }
        // t = T = N = 60, V = 1: 47 - 48; 47 - 47.
        Check.equal("60 lines", x.weight(59, 0), -1);
        x.addStops();
        Check.equal("60 lines without telling words", x.weight(59, 0), -1);
    }

    private static void noLineOrCategory() {
        Numbers.noSuchLine((x, line) -> x.weight(line, 3));
        Numbers.noSuchLine((x, line) -> x.weight(line, 8));
        Numbers.noSuchCategory((x, category) -> x.weight(0, category));
        for (int category : new int[] {-1, 8, Integer.MIN_VALUE, Integer.MAX_VALUE}) {
            State.FULL.refuses("the last line as " + category, BOUNDS,
                    x -> x.weight(59, category));
        }
    }

    private static void noLineTeaches() {
        for (int category : new int[] {1, 2, 4, 5, 6, 7}) {
            State.FEW.refuses("none teaches " + category, STATE, x -> x.weight(0, category));
        }
        CoinbookSorter x = State.FEW.make();
        x.correct(0, NONE);
        Check.raises("taken back", STATE, () -> x.weight(0, 3));
        x.correct(0, 7);
        Check.equal("7 is taught: 8 - 26; 8 - 18 twice", x.weight(0, 7), -38);
        Check.raises("3 still not", STATE, () -> x.weight(0, 3));
    }

    private static void order() {
        // The weights of the categories 0 to 7 for line 0:
        // -56, -56, -52, -52, -52, -52, -64, -68; for line 59: 3 has -36; 6 -44;
        // 2, 4 and 5 -46; 0, 1 and 7 -48.
        int[] first = {2, 3, 4, 5, 0, 1, 6, 7};
        int[] last = {3, 6, 2, 4, 5, 0, 1, 7};
        for (int each = 0; each < 8; each++) {
            int place = each;
            State.FULL.keeps("line 0 at " + place, first[place], x -> x.rankedAt(0, place));
            State.FULL.keeps("line 59 at " + place, last[place], x -> x.rankedAt(59, place));
        }
    }

    private static void places() {
        State.FEW.keeps("the first", 3, x -> x.rankedAt(6, 0));
        State.FEW.keeps("the second", 0, x -> x.rankedAt(6, 1));
        State.FULL.keeps("the eighth", 7, x -> x.rankedAt(59, 7));
        State.FULL.keeps("the ninth", NONE, x -> x.rankedAt(59, 8));
        State.FULL.keeps("a far one", NONE, x -> x.rankedAt(59, Integer.MAX_VALUE));
    }

    private static void notSoMany() {
        State.FEW.keeps("the third of two", NONE, x -> x.rankedAt(6, 2));
        State.FEW.keeps("the ninth of two", NONE, x -> x.rankedAt(6, 8));
        State.FEW.keeps("a far one of two", NONE, x -> x.rankedAt(6, Integer.MAX_VALUE));
        CoinbookSorter x = new CoinbookSorter();
        Typing.line(x, "gas", 0, 1);
        x.addRule(3, 1, 1);
        Check.equal("none has a weight", x.rankedAt(0, 0), NONE);
        x.correct(0, 7);
        Check.equal("one has", x.rankedAt(0, 0), 7);
        Check.equal("just one", x.rankedAt(0, 1), NONE);
    }

    private static void noLineOrBelow() {
        Numbers.noSuchLine((x, line) -> x.rankedAt(line, 0));
        Numbers.noSuchLine((x, line) -> x.rankedAt(line, -1));
        for (int place : new int[] {-1, -2, Integer.MIN_VALUE}) {
            State.FEW.refuses("place " + place, BOUNDS, x -> x.rankedAt(0, place));
            State.FULL.refuses("place " + place, BOUNDS, x -> x.rankedAt(59, place));
        }
    }

    /** Lines that have their category by correction, by a rule, by weights, and by none. */
    private static CoinbookSorter byEachReason(int category) {
        CoinbookSorter x = new CoinbookSorter();
        Typing.line(x, "gas", 0, -100);
        Typing.line(x, "rent", 0, 7);
        Typing.line(x, "gas bill", 0, 20);
        Typing.line(x, "oil", 0, 1000);
        x.correct(0, category);
        Typing.rule(x, "rent", category, 7, 7);
        return x;
    }

    private static void counts() {
        CoinbookSorter x = byEachReason(4);
        Check.equal("by all reasons", x.linesIn(4), 3);
        x.correct(0, 5);
        Check.equal("by a rule", x.linesIn(4), 1);
        Check.equal("by correction and weights", x.linesIn(5), 2);
        x.correct(1, 5);
        Check.equal("all but one", x.linesIn(5), 3);
        Check.equal("none is left", x.linesIn(4), 0);
    }

    private static void countsOfEach() {
        for (int category = 0; category < 8; category++) {
            CoinbookSorter x = byEachReason(category);
            for (int other = 0; other < 8; other++) {
                Check.equal("in " + other, x.linesIn(other), other == category ? 3 : 0);
            }
        }
    }

    private static void howMany() {
        State.NEW.keeps("no lines", 0, x -> x.linesIn(0));
        State.FEW.keeps("one by a rule", 1, x -> x.linesIn(5));
        State.FEW.keeps("none", 0, x -> x.linesIn(7));
        CoinbookSorter x = State.FULL.make();
        for (int rule = 0; rule < 12; rule++) {
            x.removeRule(0);
        }
        Typing.text(x, "");
        x.addRule(7, -99999, 99999);
        Check.equal("all but those corrected elsewhere", x.linesIn(7), 45);
        for (int line = 0; line < 60; line++) {
            x.correct(line, 7);
        }
        Check.equal("all sixty", x.linesIn(7), 60);
        Check.equal("no line without a category", x.linesIn(0), 0);
    }

    private static void sums() {
        CoinbookSorter x = byEachReason(4);
        Check.equal("by all reasons", x.sumOf(4), -73);
        x.correct(0, 5);
        Check.equal("by a rule", x.sumOf(4), 7);
        Check.equal("by correction and weights", x.sumOf(5), -80);
        State.NEW.keeps("of no lines", 0, y -> y.sumOf(0));
        State.FEW.keeps("of no lines of this category", 0, y -> y.sumOf(7));
        State.FEW.keeps("of five", -100025, y -> y.sumOf(3));
        for (int amount : new int[] {-99999, 99999}) {
            CoinbookSorter y = new CoinbookSorter();
            Typing.text(y, "a");
            for (int line = 0; line < 60; line++) {
                y.addLine(0, amount);
            }
            y.correct(59, 0);
            Check.equal("sixty of " + amount, y.sumOf(0), 60 * amount);
            Check.equal("they are no others'", y.sumOf(7), 0);
        }
    }

    private static void sumsOfEach() {
        for (int category = 0; category < 8; category++) {
            CoinbookSorter x = byEachReason(category);
            for (int other = 0; other < 8; other++) {
                Check.equal("of " + other, x.sumOf(other), other == category ? -73 : 0);
            }
        }
    }
}
